/-! THE REFERENCE's turn -/
/-- an ORDER that turns round is sound -/
abbrev oKr (o : ORD) : Prop := (21 ≤ o.1 ∧ o.1 ≤ 30) ∧ rng o.2.1 ∧ (∀ t ∈ o.2.2, SDC t) ∧ o.2.2.length ≤ 1
theorem oKr_len {X : List ORD} (h : ∀ o ∈ X, oKr o) : ∀ o ∈ X, ∀ t ∈ o.2.2, 1 ≤ t.length := fun o ho t ht => ((h o ho).2.2.1 t ht).1.1.2.1
theorem tI_rgs {U : List ND} (h : SDC U) (i : Int) : rng (tI U i) := by
  unfold tI
  by_cases c : 0 ≤ i ∧ i < (U.length : Int)
  · rw [if_pos c]
    have : i.toNat < U.length := by omega
    exact (h.2.1 _ (nd_mem this)).1.2.2.2.2.2.2.2.1
  · rw [if_neg c]
    exact fun x hx => by cases hx
theorem apT_rng {l : List Int} {V : List ND} {z : Bool × Nat × Nat × Nat} (h : rng l) : rng (apT l V z) := by
  unfold apT
  by_cases c : nk V z.2.1 = 4
  · rw [if_pos c]
    exact rng_app (fun x hx => h x (List.mem_of_mem_take hx)) (wnum_r (by omega))
  · rw [if_neg c]
    exact h
theorem puL_ok {l : List Int} {V : List ND} (hV : SDC V) (hl : rng l) : ∀ o ∈ puL l V, oKr o := by
  intro o ho
  unfold puL at ho
  cases hz : aimS l V with
  | none => rw [hz] at ho; cases ho
  | some z =>
    rw [hz] at ho
    dsimp only at ho
    have ok := aimS_ok hV.1 hz
    by_cases c : z.1 = true
    · rw [if_pos c, List.mem_singleton] at ho
      rw [ho]
      refine ⟨⟨show 21 ≤ 21 by decide, show 21 ≤ 30 by decide⟩, hl, fun t ht => ?_, Nat.le_refl 1⟩
      rw [List.mem_singleton] at ht
      rw [ht]
      exact sdc_sg V.length V (Nat.le_refl _) hV _ (ok.2.1 c)
    · rw [if_neg c, List.mem_singleton] at ho
      rw [ho]
      exact ⟨⟨show 21 ≤ 25 by decide, show 25 ≤ 30 by decide⟩, apT_rng hl, (fun t ht => by cases ht), Nat.zero_le 1⟩
theorem one_ok {op : Nat} {l : List Int} {V : List ND} {i : Nat} (hop : 21 ≤ op ∧ op ≤ 30) (hl : rng l) (hV : SDC V) (hi : i < V.length) : ∀ o ∈ ([(op, l, [sg V i])] : List ORD), oKr o := by
  intro o ho
  rw [List.mem_singleton] at ho
  rw [ho]
  refine ⟨hop, hl, fun t ht => ?_, Nat.le_refl 1⟩
  rw [List.mem_singleton] at ht
  rw [ht]
  exact sdc_sg V.length V (Nat.le_refl _) hV _ hi
theorem unL_ok {U V T : List ND} {c : Nat} (hU : DOC U) (hV : DOC V) (ho : loS U c V = some T) : ∀ o ∈ unL U c V, oKr o := by
  have hU0 := hU.1.1
  have hV0 := hV.1.1
  have rw1 : rng (tI U (wyI U c)) := tI_rgs hU.1 _
  have rf1 : rng (tI U (frI U c)) := tI_rgs hU.1 _
  rw [lyS_op hU0 hV] at ho
  have c0 : opN U c ≠ -1 := fun z => by
    rw [if_pos z] at ho
    cases ho
  rw [if_neg c0] at ho
  obtain ⟨⟨h5, k3, pw⟩, tl, o0, o5⟩ := opN_ok c0
  obtain ⟨k, ek⟩ : ∃ k : Nat, opN U c = (k : Int) := ⟨(opN U c).toNat, by omega⟩
  have k6 : k < 6 := by omega
  rw [unL_op (V := V) k6 ek]
  rw [ek] at ho tl
  have ldv : ∀ l : List Int, ldT l V (nW l) ≠ -1 → (ldT l V (nW l)).toNat < V.length := fun l a => by
    rcases ld_ok (l := l) hV0 (nW l) with z | z
    · exact absurd z a
    · omega
  by_cases k1 : k = 1
  · rw [if_pos k1]
    rw [if_neg (show ¬ (k : Int) = 0 by omega), if_pos (show (k : Int) = 1 by omega)] at ho
    refine one_ok (by decide) rw1 hV.1 (ldv _ (fun z => ?_))
    unfold lyC at ho
    rw [if_pos (Or.inl z)] at ho
    cases ho
  rw [if_neg k1]
  by_cases k3' : k = 3
  · rw [if_pos k3']
    rw [if_neg (show ¬ (k : Int) = 0 by omega), if_neg (show ¬ (k : Int) = 1 by omega), if_neg (show ¬ (k : Int) = 2 by omega), if_pos (show (k : Int) = 3 by omega)] at ho
    have ln : ldT (tI U (frI U c)) V (nW (tI U (frI U c))) ≠ -1 := fun z => by
      rw [if_pos z] at ho
      cases ho
    rw [if_neg ln] at ho
    have sc : SDC (cutT V (ldT (tI U (frI U c)) V (nW (tI U (frI U c)))).toNat) := by
      cases e : lyC (tI U (frI U c)) V with
      | none => rw [e] at ho; cases ho
      | some V1 =>
        have := (lyC_doc hV e).1
        unfold lyC at e
        split at e
        · cases e
        · rw [Option.some.inj e]
          exact this
    intro o hx
    rcases List.mem_append.mp hx with y | y
    · exact puL_ok sc rw1 o y
    · exact one_ok (by decide) rf1 hV.1 (ldv _ ln) o y
  rw [if_neg k3']
  by_cases k4 : k = 4 ∨ k = 0
  · rw [if_pos k4]
    exact puL_ok hV.1 rw1
  rw [if_neg k4]
  by_cases k2 : k = 2
  · rw [if_pos k2]
    rw [if_neg (show ¬ (k : Int) = 0 by omega), if_neg (show ¬ (k : Int) = 1 by omega), if_pos (show (k : Int) = 2 by omega)] at ho
    refine one_ok (by decide) rw1 hV.1 (ldv _ (fun z => ?_))
    rw [if_pos z] at ho
    cases ho
  rw [if_neg k2]
  have et : tlQ U c (k : Int) = ((k : Int) = 1 ∨ vaI U c ≠ -1) := if_neg (by omega)
  rw [et] at tl
  have vn : vaI U c ≠ -1 := by
    rcases tl with z | z
    · omega
    · exact z
  obtain ⟨v, ev, vl⟩ := vl_at hU0 vn
  have ev' : vaI U c = (v : Int) := ev
  rw [ev', Int.toNat_natCast]
  exact one_ok (by decide) rw1 hU.1 vl
theorem loS_doc {U V T : List ND} {c : Nat} (hU : DOC U) (hV : DOC V) (hc : c < U.length) (ho : loS U c V = some T) : DOC T := by
  have hU0 := hU.1.1
  have hV0 := hV.1.1
  have rw1 : rng (tI U (wyI U c)) := tI_rgs hU.1 _
  rw [lyS_op hU0 hV] at ho
  have c0 : opN U c ≠ -1 := fun z => by
    rw [if_pos z] at ho
    cases ho
  rw [if_neg c0] at ho
  obtain ⟨⟨h5, k3, pw⟩, tl, o0, o5⟩ := opN_ok c0
  obtain ⟨k, ek⟩ : ∃ k : Nat, opN U c = (k : Int) := ⟨(opN U c).toNat, by omega⟩
  have k6 : k < 6 := by omega
  rw [ek] at ho tl
  have ldv : ∀ l : List Int, ldT l V (nW l) ≠ -1 → (ldT l V (nW l)).toNat < V.length := fun l a => by
    rcases ld_ok (l := l) hV0 (nW l) with z | z
    · exact absurd z a
    · omega
  have va : k ≠ 1 → ¬ (k = 3 ∨ k = 4) → ∃ v : Nat, vaI U c = (v : Int) ∧ v < U.length := fun a b => by
    have e : tlQ U c (k : Int) = ((k : Int) = 1 ∨ vaI U c ≠ -1) := if_neg (by omega)
    rw [e] at tl
    rcases tl with z | z
    · omega
    · exact vl_at hU0 z
  have kk : k = 0 ∨ k = 1 ∨ k = 2 ∨ k = 3 ∨ k = 4 ∨ k = 5 := by omega
  by_cases q0 : k = 0
  · rw [if_pos (show (k : Int) = 0 by omega)] at ho
    obtain ⟨v, ev, vl⟩ := va (by omega) (by omega)
    rw [ev, Int.toNat_natCast] at ho
    exact lyP_doc hV rw1 (sdc_sg U.length U (Nat.le_refl _) hU.1 v vl) ho
  rw [if_neg (show ¬ (k : Int) = 0 by omega)] at ho
  by_cases q1 : k = 1
  · rw [if_pos (show (k : Int) = 1 by omega)] at ho
    exact lyC_doc hV ho
  rw [if_neg (show ¬ (k : Int) = 1 by omega)] at ho
  by_cases q2 : k = 2
  · rw [if_pos (show (k : Int) = 2 by omega)] at ho
    by_cases ln : ldT (tI U (wyI U c)) V (nW (tI U (wyI U c))) = -1
    · rw [if_pos ln] at ho
      cases ho
    rw [if_neg ln] at ho
    obtain ⟨v, ev, vl⟩ := va (by omega) (by omega)
    rw [ev, Int.toNat_natCast] at ho
    have n7 := ldv _ ln
    generalize (ldT (tI U (wyI U c)) V (nW (tI U (wyI U c)))).toNat = n at n7 ho
    by_cases cp : pOK (updF (fun t => kyT (sg U v) (rq t)) V.length V n)
    · rw [if_pos cp] at ho
      have e := Option.some.inj ho
      rw [← e]
      have sbU := sdc_sg U.length U (Nat.le_refl _) hU.1 v vl
      have sv := sdc_sg V.length V (Nat.le_refl _) hV.1 n n7
      have kr := (sv.2.1 _ (nd_mem sv.1.1.2.1)).1
      have sk : SDC (kyT (sg U v) (rq (sg V n))) := sdc_ky sbU kr.2.2.2.2.2.2.2.2.2 kr.2.2.2.2.2.2.2.2.1
      have := upd_sdc (h := fun c => kyT (sg U v) (rq c)) V.length V n (Nat.le_refl _) hV.1 n7 sk rfl cp.1
      exact doc_p this.1 cp (this.2.trans hV.2.2.2)
    · rw [if_neg cp] at ho
      cases ho
  rw [if_neg (show ¬ (k : Int) = 2 by omega)] at ho
  by_cases q3 : k = 3
  · rw [if_pos (show (k : Int) = 3 by omega)] at ho
    by_cases ln : ldT (tI U (frI U c)) V (nW (tI U (frI U c))) = -1
    · rw [if_pos ln] at ho
      cases ho
    rw [if_neg ln] at ho
    cases e : lyC (tI U (frI U c)) V with
    | none => rw [e] at ho; cases ho
    | some V1 =>
      rw [e] at ho
      exact lyP_doc (lyC_doc hV e) rw1 (sdc_sg V.length V (Nat.le_refl _) hV.1 _ (ldv _ ln)) ho
  rw [if_neg (show ¬ (k : Int) = 3 by omega)] at ho
  by_cases q4 : k = 4
  · rw [if_pos (show (k : Int) = 4 by omega)] at ho
    by_cases ln : ldT (tI U (frI U c)) V (nW (tI U (frI U c))) = -1
    · rw [if_pos ln] at ho
      cases ho
    rw [if_neg ln] at ho
    exact lyP_doc hV rw1 (sdc_sg V.length V (Nat.le_refl _) hV.1 _ (ldv _ ln)) ho
  rw [if_neg (show ¬ (k : Int) = 4 by omega)] at ho
  by_cases ln : ldT (tI U (wyI U c)) V (nW (tI U (wyI U c))) = -1
  · rw [if_pos ln] at ho
    cases ho
  rw [if_neg ln] at ho
  split at ho
  · rw [← Option.some.inj ho]
    exact hV
  · cases ho
theorem unF_ok {U : List ND} (hU : DOC U) : ∀ (K : List Nat) (V : List ND), (∀ c ∈ K, c < U.length) → DOC V → ∀ o ∈ unF U K V, oKr o
  | [], V, _, _ => fun o ho => by cases ho
  | c :: K, V, hK, hV => by
    have eu : unF U (c :: K) V = match loS U c V with
      | none => []
      | some T => unF U K T ++ unL U c V := rfl
    rw [eu]
    cases hT : loS U c V with
    | none => exact fun o ho => by cases ho
    | some T =>
      intro o ho
      rcases List.mem_append.mp ho with y | y
      · exact unF_ok hU K T (fun c hc => hK c (List.mem_cons_of_mem _ hc)) (loS_doc hU hV (hK c List.mem_cons_self) hT) o y
      · exact unL_ok hU hV hT o y
/-- from either end the same -/
theorem adL_rcL {X : List ORD} (h : ∀ o ∈ X, oKr o) : adL X (some []) = rcL X (some []) := by
  have a := adL_is X [] (by rw [List.nil_append]; exact oKr_len h) ⟨(fun o ho => by cases ho), by decide⟩
  have b := rcL_is X (oKr_len h)
  rw [List.nil_append] at a
  by_cases c : okO X
  · rw [b.1 c]
    exact a.1 c
  · rw [b.2 c]
    exact a.2 c
theorem osk_adl : ∀ (X : List ORD) (os : Option (List (List ND))), (∀ o ∈ X, oKr o) → OsK os → OsK (adL X os)
  | [], _, _, h => h
  | o :: X, os, hX, h => osk_adl X _ (fun o ho => hX o (List.mem_cons_of_mem _ ho)) (osk_add h (hX o List.mem_cons_self).1 (hX o List.mem_cons_self).2.1 (hX o List.mem_cons_self).2.2.1 (hX o List.mem_cons_self).2.2.2)
/-- the PATCH turned round, if there is one -/
def tuT (U V : List ND) : Option (List ND) := match laF U (kids U 0) 0 V with
  | .inl _ => none
  | .inr _ => match adL (unF U (kids U 0) V) (some []) with
    | none => none
    | some Os => if pOK (gpN (ndK 4) Os Os.length) then some (gpN (ndK 4) Os Os.length) else none
theorem kids_lt {U : List ND} (hU : DOC U) : ∀ c ∈ kids U 0, c < U.length := fun _ hc => kids_in hU.1.1.1.1 (pz_l hU.1.1.2) (g := 0) (by have := hU.1.1.1.2.1; omega) hc
theorem osk_un {U V : List ND} (hU : DOC U) (hV : DOC V) : OsK (adL (unF U (kids U 0) V) (some [])) := osk_adl _ _ (unF_ok hU _ _ (kids_lt hU) hV) (fun Os e => by
  have e := Option.some.inj e
  subst e
  exact ⟨by decide, fun t ht => by cases ht⟩)
