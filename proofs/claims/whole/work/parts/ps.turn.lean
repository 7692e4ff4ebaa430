/-! THE REFERENCE's turn -/
/-- an ORDER that turns round is sound -/
abbrev oKr (o : ORD) : Prop := (21 ≤ o.1 ∧ o.1 ≤ 30) ∧ rng o.2.1 ∧ (∀ t ∈ o.2.2, SDC t) ∧ o.2.2.length ≤ 1
theorem oKr_len {X : List ORD} (h : ∀ o ∈ X, oKr o) : ∀ o ∈ X, ∀ t ∈ o.2.2, 1 ≤ t.length := fun o ho t ht => ((h o ho).2.2.1 t ht).1.1.2.1
theorem tI_rgs {U : List ND} (h : SDC U) (i : Int) : rng (tI U i) := by
  unfold tI
  by_cases c : 0 ≤ i ∧ i < (U.length : Int)
  · rw [if_pos c]
    have : i.toNat < U.length := by omega
    exact (h.2.1 _ (nd_mem this)).1.2.2.2.2.2.2.2.1
  · rw [if_neg c]
    exact fun x hx => by cases hx
theorem apT_rng {l : List Int} {V : List ND} {z : Bool × Nat × Nat × Nat} (h : rng l) : rng (apT l V z) := by
  unfold apT
  by_cases c : nk V z.2.1 = 4
  · rw [if_pos c]
    exact rng_app (fun x hx => h x (List.mem_of_mem_take hx)) (wnum_r (by omega))
  · rw [if_neg c]
    exact h
theorem puL_ok {l : List Int} {V : List ND} (hV : SDC V) (hl : rng l) : ∀ o ∈ puL l V, oKr o := by
  intro o ho
  unfold puL at ho
  cases hz : aimS l V with
  | none => rw [hz] at ho; cases ho
  | some z =>
    rw [hz] at ho
    dsimp only at ho
    have ok := aimS_ok hV.1 hz
    by_cases c : z.1 = true
    · rw [if_pos c, List.mem_singleton] at ho
      rw [ho]
      refine ⟨⟨show 21 ≤ 21 by decide, show 21 ≤ 30 by decide⟩, hl, fun t ht => ?_, Nat.le_refl 1⟩
      rw [List.mem_singleton] at ht
      rw [ht]
      exact sdc_sg V.length V (Nat.le_refl _) hV _ (ok.2.1 c)
    · rw [if_neg c, List.mem_singleton] at ho
      rw [ho]
      exact ⟨⟨show 21 ≤ 25 by decide, show 25 ≤ 30 by decide⟩, apT_rng hl, (fun t ht => by cases ht), Nat.zero_le 1⟩
theorem one_ok {op : Nat} {l : List Int} {V : List ND} {i : Nat} (hop : 21 ≤ op ∧ op ≤ 30) (hl : rng l) (hV : SDC V) (hi : i < V.length) : ∀ o ∈ ([(op, l, [sg V i])] : List ORD), oKr o := by
  intro o ho
  rw [List.mem_singleton] at ho
  rw [ho]
  refine ⟨hop, hl, fun t ht => ?_, Nat.le_refl 1⟩
  rw [List.mem_singleton] at ht
  rw [ht]
  exact sdc_sg V.length V (Nat.le_refl _) hV _ hi
theorem unL_ok {U V T : List ND} {c : Nat} (hU : DOC U) (hV : DOC V) (ho : loS U c V = some T) : ∀ o ∈ unL U c V, oKr o := by
  have hU0 := hU.1.1
  have hV0 := hV.1.1
  have rw1 : rng (tI U (wyI U c)) := tI_rgs hU.1 _
  have rf1 : rng (tI U (frI U c)) := tI_rgs hU.1 _
  rw [lyS_op hU0 hV] at ho
  have c0 : opN U c ≠ -1 := fun z => by
    rw [if_pos z] at ho
    cases ho
  rw [if_neg c0] at ho
  obtain ⟨⟨h5, k3, pw⟩, tl, o0, o5⟩ := opN_ok c0
  obtain ⟨k, ek⟩ : ∃ k : Nat, opN U c = (k : Int) := ⟨(opN U c).toNat, by omega⟩
  have k6 : k < 6 := by omega
  rw [unL_op (V := V) k6 ek]
  rw [ek] at ho tl
  have ldv : ∀ l : List Int, ldT l V (nW l) ≠ -1 → (ldT l V (nW l)).toNat < V.length := fun l a => by
    rcases ld_ok (l := l) hV0 (nW l) with z | z
    · exact absurd z a
    · omega
  by_cases k1 : k = 1
  · rw [if_pos k1]
    rw [if_neg (show ¬ (k : Int) = 0 by omega), if_pos (show (k : Int) = 1 by omega)] at ho
    refine one_ok (by decide) rw1 hV.1 (ldv _ (fun z => ?_))
    unfold lyC at ho
    rw [if_pos (Or.inl z)] at ho
    cases ho
  rw [if_neg k1]
  by_cases k3' : k = 3
  · rw [if_pos k3']
    rw [if_neg (show ¬ (k : Int) = 0 by omega), if_neg (show ¬ (k : Int) = 1 by omega), if_neg (show ¬ (k : Int) = 2 by omega), if_pos (show (k : Int) = 3 by omega)] at ho
    have ln : ldT (tI U (frI U c)) V (nW (tI U (frI U c))) ≠ -1 := fun z => by
      rw [if_pos z] at ho
      cases ho
    rw [if_neg ln] at ho
    have sc : SDC (cutT V (ldT (tI U (frI U c)) V (nW (tI U (frI U c)))).toNat) := by
      cases e : lyC (tI U (frI U c)) V with
      | none => rw [e] at ho; cases ho
      | some V1 =>
        have := (lyC_doc hV e).1
        unfold lyC at e
        split at e
        · cases e
        · rw [Option.some.inj e]
          exact this
    intro o hx
    rcases List.mem_append.mp hx with y | y
    · exact puL_ok sc rw1 o y
    · exact one_ok (by decide) rf1 hV.1 (ldv _ ln) o y
  rw [if_neg k3']
  by_cases k4 : k = 4 ∨ k = 0
  · rw [if_pos k4]
    exact puL_ok hV.1 rw1
  rw [if_neg k4]
  by_cases k2 : k = 2
  · rw [if_pos k2]
    rw [if_neg (show ¬ (k : Int) = 0 by omega), if_neg (show ¬ (k : Int) = 1 by omega), if_pos (show (k : Int) = 2 by omega)] at ho
    refine one_ok (by decide) rw1 hV.1 (ldv _ (fun z => ?_))
    rw [if_pos z] at ho
    cases ho
  rw [if_neg k2]
  have et : tlQ U c (k : Int) = ((k : Int) = 1 ∨ vaI U c ≠ -1) := if_neg (by omega)
  rw [et] at tl
  have vn : vaI U c ≠ -1 := by
    rcases tl with z | z
    · omega
    · exact z
  obtain ⟨v, ev, vl⟩ := vl_at hU0 vn
  have ev' : vaI U c = (v : Int) := ev
  rw [ev', Int.toNat_natCast]
  exact one_ok (by decide) rw1 hU.1 vl
theorem loS_doc {U V T : List ND} {c : Nat} (hU : DOC U) (hV : DOC V) (hc : c < U.length) (ho : loS U c V = some T) : DOC T := by
  have hU0 := hU.1.1
  have hV0 := hV.1.1
  have rw1 : rng (tI U (wyI U c)) := tI_rgs hU.1 _
  rw [lyS_op hU0 hV] at ho
  have c0 : opN U c ≠ -1 := fun z => by
    rw [if_pos z] at ho
    cases ho
  rw [if_neg c0] at ho
  obtain ⟨⟨h5, k3, pw⟩, tl, o0, o5⟩ := opN_ok c0
  obtain ⟨k, ek⟩ : ∃ k : Nat, opN U c = (k : Int) := ⟨(opN U c).toNat, by omega⟩
  have k6 : k < 6 := by omega
  rw [ek] at ho tl
  have ldv : ∀ l : List Int, ldT l V (nW l) ≠ -1 → (ldT l V (nW l)).toNat < V.length := fun l a => by
    rcases ld_ok (l := l) hV0 (nW l) with z | z
    · exact absurd z a
    · omega
  have va : k ≠ 1 → ¬ (k = 3 ∨ k = 4) → ∃ v : Nat, vaI U c = (v : Int) ∧ v < U.length := fun a b => by
    have e : tlQ U c (k : Int) = ((k : Int) = 1 ∨ vaI U c ≠ -1) := if_neg (by omega)
    rw [e] at tl
    rcases tl with z | z
    · omega
    · exact vl_at hU0 z
  have kk : k = 0 ∨ k = 1 ∨ k = 2 ∨ k = 3 ∨ k = 4 ∨ k = 5 := by omega
  by_cases q0 : k = 0
  · rw [if_pos (show (k : Int) = 0 by omega)] at ho
    obtain ⟨v, ev, vl⟩ := va (by omega) (by omega)
    rw [ev, Int.toNat_natCast] at ho
    exact lyP_doc hV rw1 (sdc_sg U.length U (Nat.le_refl _) hU.1 v vl) ho
  rw [if_neg (show ¬ (k : Int) = 0 by omega)] at ho
  by_cases q1 : k = 1
  · rw [if_pos (show (k : Int) = 1 by omega)] at ho
    exact lyC_doc hV ho
  rw [if_neg (show ¬ (k : Int) = 1 by omega)] at ho
  by_cases q2 : k = 2
  · rw [if_pos (show (k : Int) = 2 by omega)] at ho
    by_cases ln : ldT (tI U (wyI U c)) V (nW (tI U (wyI U c))) = -1
    · rw [if_pos ln] at ho
      cases ho
    rw [if_neg ln] at ho
    obtain ⟨v, ev, vl⟩ := va (by omega) (by omega)
    rw [ev, Int.toNat_natCast] at ho
    have n7 := ldv _ ln
    generalize (ldT (tI U (wyI U c)) V (nW (tI U (wyI U c)))).toNat = n at n7 ho
    by_cases cp : pOK (updF (fun t => kyT (sg U v) (rq t)) V.length V n)
    · rw [if_pos cp] at ho
      have e := Option.some.inj ho
      rw [← e]
      have sbU := sdc_sg U.length U (Nat.le_refl _) hU.1 v vl
      have sv := sdc_sg V.length V (Nat.le_refl _) hV.1 n n7
      have kr := (sv.2.1 _ (nd_mem sv.1.1.2.1)).1
      have sk : SDC (kyT (sg U v) (rq (sg V n))) := sdc_ky sbU kr.2.2.2.2.2.2.2.2.2 kr.2.2.2.2.2.2.2.2.1
      have := upd_sdc (h := fun c => kyT (sg U v) (rq c)) V.length V n (Nat.le_refl _) hV.1 n7 sk rfl cp.1
      exact doc_p this.1 cp (this.2.trans hV.2.2.2)
    · rw [if_neg cp] at ho
      cases ho
  rw [if_neg (show ¬ (k : Int) = 2 by omega)] at ho
  by_cases q3 : k = 3
  · rw [if_pos (show (k : Int) = 3 by omega)] at ho
    by_cases ln : ldT (tI U (frI U c)) V (nW (tI U (frI U c))) = -1
    · rw [if_pos ln] at ho
      cases ho
    rw [if_neg ln] at ho
    cases e : lyC (tI U (frI U c)) V with
    | none => rw [e] at ho; cases ho
    | some V1 =>
      rw [e] at ho
      exact lyP_doc (lyC_doc hV e) rw1 (sdc_sg V.length V (Nat.le_refl _) hV.1 _ (ldv _ ln)) ho
  rw [if_neg (show ¬ (k : Int) = 3 by omega)] at ho
  by_cases q4 : k = 4
  · rw [if_pos (show (k : Int) = 4 by omega)] at ho
    by_cases ln : ldT (tI U (frI U c)) V (nW (tI U (frI U c))) = -1
    · rw [if_pos ln] at ho
      cases ho
    rw [if_neg ln] at ho
    exact lyP_doc hV rw1 (sdc_sg V.length V (Nat.le_refl _) hV.1 _ (ldv _ ln)) ho
  rw [if_neg (show ¬ (k : Int) = 4 by omega)] at ho
  by_cases ln : ldT (tI U (wyI U c)) V (nW (tI U (wyI U c))) = -1
  · rw [if_pos ln] at ho
    cases ho
  rw [if_neg ln] at ho
  split at ho
  · rw [← Option.some.inj ho]
    exact hV
  · cases ho
theorem unF_ok {U : List ND} (hU : DOC U) : ∀ (K : List Nat) (V : List ND), (∀ c ∈ K, c < U.length) → DOC V → ∀ o ∈ unF U K V, oKr o
  | [], V, _, _ => fun o ho => by cases ho
  | c :: K, V, hK, hV => by
    have eu : unF U (c :: K) V = match loS U c V with
      | none => []
      | some T => unF U K T ++ unL U c V := rfl
    rw [eu]
    cases hT : loS U c V with
    | none => exact fun o ho => by cases ho
    | some T =>
      intro o ho
      rcases List.mem_append.mp ho with y | y
      · exact unF_ok hU K T (fun c hc => hK c (List.mem_cons_of_mem _ hc)) (loS_doc hU hV (hK c List.mem_cons_self) hT) o y
      · exact unL_ok hU hV hT o y
/-- from either end the same -/
theorem adL_rcL {X : List ORD} (h : ∀ o ∈ X, oKr o) : adL X (some []) = rcL X (some []) := by
  have a := adL_is X [] (by rw [List.nil_append]; exact oKr_len h) ⟨(fun o ho => by cases ho), by decide⟩
  have b := rcL_is X (oKr_len h)
  rw [List.nil_append] at a
  by_cases c : okO X
  · rw [b.1 c]
    exact a.1 c
  · rw [b.2 c]
    exact a.2 c
theorem osk_adl : ∀ (X : List ORD) (os : Option (List (List ND))), (∀ o ∈ X, oKr o) → OsK os → OsK (adL X os)
  | [], _, _, h => h
  | o :: X, os, hX, h => osk_adl X _ (fun o ho => hX o (List.mem_cons_of_mem _ ho)) (osk_add h (hX o List.mem_cons_self).1 (hX o List.mem_cons_self).2.1 (hX o List.mem_cons_self).2.2.1 (hX o List.mem_cons_self).2.2.2)
/-- the PATCH turned round, if there is one -/
def tuT (U V : List ND) : Option (List ND) := match laF U (kids U 0) 0 V with
  | .inl _ => none
  | .inr _ => match adL (unF U (kids U 0) V) (some []) with
    | none => none
    | some Os => if pOK (gpN (ndK 4) Os Os.length) then some (gpN (ndK 4) Os Os.length) else none
theorem kids_lt {U : List ND} (hU : DOC U) : ∀ c ∈ kids U 0, c < U.length := fun _ hc => kids_in hU.1.1.1.1 (pz_l hU.1.1.2) (g := 0) (by have := hU.1.1.1.2.1; omega) hc
theorem osk_un {U V : List ND} (hU : DOC U) (hV : DOC V) : OsK (adL (unF U (kids U 0) V) (some [])) := osk_adl _ _ (unF_ok hU _ _ (kids_lt hU) hV) (fun Os e => by
  have e := Option.some.inj e
  subst e
  exact ⟨by decide, fun t ht => by cases ht⟩)
theorem tuT_doc {U V T : List ND} (hU : DOC U) (hV : DOC V) (e : tuT U V = some T) : DOC T := by
  unfold tuT at e
  cases hL : laF U (kids U 0) 0 V with
  | inl n => rw [hL] at e; cases e
  | inr T2 =>
    rw [hL] at e
    dsimp only at e
    cases hP : adL (unF U (kids U 0) V) (some []) with
    | none => rw [hP] at e; cases e
    | some Os =>
      rw [hP] at e
      dsimp only at e
      by_cases c : pOK (gpN (ndK 4) Os Os.length)
      · rw [if_pos c] at e
        rw [← Option.some.inj e]
        rcases osk_tr (osk_un hU hV) Os hP with z | z
        · exact z
        · exact absurd c z
      · rw [if_neg c] at e
        cases e
theorem laF_app {U : List ND} : ∀ (K L : List Nat) (n : Nat) (V : List ND), laF U (K ++ L) n V = match laF U K n V with
    | .inl m => .inl m
    | .inr T => laF U L (n + K.length) T
  | [], L, n, V => rfl
  | c :: K, L, n, V => by
    rw [List.cons_append, laF_c, laF_c]
    cases loS U c V with
    | none => rfl
    | some T =>
      dsimp only
      rw [laF_app K L (n + 1) T, List.length_cons, show n + 1 + K.length = n + (K.length + 1) by omega]
theorem unF_app {U : List ND} : ∀ (K L : List Nat) (n : Nat) (V W : List ND), laF U K n V = .inr W → unF U (K ++ L) V = unF U L W ++ unF U K V
  | [], L, n, V, W, h => by
    have e : V = W := Sum.inr.inj h
    subst e
    show unF U L V = unF U L V ++ []
    rw [List.append_nil]
  | c :: K, L, n, V, W, h => by
    have eu : ∀ J, unF U (c :: J) V = match loS U c V with
      | none => []
      | some T => unF U J T ++ unL U c V := fun _ => rfl
    rw [laF_c] at h
    rw [List.cons_append, eu, eu]
    cases hS : loS U c V with
    | none => rw [hS] at h; cases h
    | some T =>
      rw [hS] at h
      dsimp only
      rw [unF_app K L (n + 1) T W h, List.append_assoc]
section RNW
variable {S : GS} {d : Nat}
theorem q_notWhole {k : Int} {K : Nat} (hk : k = (K : Int)) (hK : K < 48) (h : S.2.1 500 5 = true) : Ev (fun n => f_X12_isWhole n d 0 S [k]) (fun x S1 => x = 0 ∧ S1 = S) := by
  subst hk
  have bt : bi true = 1 := rfl
  refine ev_up (fun n => e_X12_isWhole_0) ?_
  unfold b_X12_isWhole_0
  refine ev_gv ?_
  rw [h, bt]
  refine ev_gg (by decide) ?_
  refine ev_ite (fun _ => ?_) (fun z => by omega)
  exact ev_ret ⟨rfl, rfl⟩
end RNW
section RTU
variable {S0 S : GS} {T0 : List ND} {Ds : List (List ND)} {pg pp : List Int} {r : Int} {L : List Nat} {Q : List (List Int)} {C : List (Int × Int)} {d : Nat}
theorem r_turn {a b : Int} (hd : 19 ≤ d) (ha : inr a) (hb : inr b) (h : RfS S0 T0 Ds pg pp r L Q C S) : Ev (fun n => f_X12_turn n d 0 S [a, b]) (fun x S1 => if hasD Ds a ∧ hasD Ds b then (if Ds.length < 40 ∧ rk (atD' Ds b) = 4 then (match tuT (atD' Ds b) (atD' Ds a) with
    | none => S1.1 500 0 = 2 ∧ RfS S0 T0 Ds pg pp r L Q C S1
    | some T => x = (Ds.length : Int) ∧ S1.1 500 0 = 0 ∧ RfS S0 T0 (Ds ++ [T]) pg pp r L Q C S1) else S1.1 500 0 = 2 ∧ RfS S0 T0 Ds pg pp r L Q C S1) else S1.1 500 0 = 1 ∧ RfS S0 T0 Ds pg pp r L Q C S1) := by
  have n4 := h.1.2.1
  have p22 : ∀ s : Int, s = (if hasD Ds a ∧ hasD Ds b then 1 else 0) → Ev (fun n => f_X12_turn n d 22 S [a, b, s]) (fun x S1 => if hasD Ds a ∧ hasD Ds b then (if Ds.length < 40 ∧ rk (atD' Ds b) = 4 then (match tuT (atD' Ds b) (atD' Ds a) with
    | none => S1.1 500 0 = 2 ∧ RfS S0 T0 Ds pg pp r L Q C S1
    | some T => x = (Ds.length : Int) ∧ S1.1 500 0 = 0 ∧ RfS S0 T0 (Ds ++ [T]) pg pp r L Q C S1) else S1.1 500 0 = 2 ∧ RfS S0 T0 Ds pg pp r L Q C S1) else S1.1 500 0 = 1 ∧ RfS S0 T0 Ds pg pp r L Q C S1) := by
    intro s hs
    refine ev_up (fun n => e_X12_turn_22) ?_
    unfold b_X12_turn_22
    refine ev_gg (by first | omega | (constructor <;> omega)) ?_
    refine fa_c hs h (fun c S1 t1 f1 h1 => ?_) (fun c S1 t1 f1 h1 => ?_)
    · refine ev_gg (by decide) ?_
      refine ev_ite (fun _ => ?_) (fun z => by omega)
      simp only [if_pos c]
      obtain ⟨e1, e2, e3, e4⟩ := r_at h1 c.1
      obtain ⟨g1, g2, g3, g4⟩ := r_at h1 c.2
      have lb := g4.1.1.1.2.1
      have l100 := g4.2.2.1
      have nr := g3.2.2.2 _ (nd_mem (i := 0) (by omega))
      have nr1 : 0 ≤ nk (atD' Ds b) 0 ∧ nk (atD' Ds b) 0 ≤ 5 := ⟨nr.1, nr.2.1⟩
      have kl := kids_100 g4.1.1.1.1 (pz_l g4.1.1.2) l100 (g := 0) (by omega)
      have rk0 : rk (atD' Ds b) = nk (atD' Ds b) 0 := rfl
      have bad : ∀ (S2 : GS) (x7 : Int), RfS S0 T0 Ds pg pp r L Q C S2 → Ev (fun n => f_X12_turn n d 75 S2 [a, b, x7, 0]) (fun _ S1 => S1.1 500 0 = 2 ∧ RfS S0 T0 Ds pg pp r L Q C S1) := by
        intro S2 x7 h2
        refine ev_up (fun n => e_X12_turn_75) ?_
        unfold b_X12_turn_75
        refine ev_gg (by first | omega | (constructor <;> omega)) ?_
        refine fa_c (p := False) (by rw [if_neg (fun z => z)]) h2 (fun z => z.elim) (fun _ S3 t3 f3 h3 => ?_)
        refine ev_gg (by decide) ?_
        refine ev_ite (fun z => by omega) (fun _ => ?_)
        exact ev_ret ⟨t3, h3⟩
      refine ev_gcr (q_manyL (d := d - 1) (K := b.toNat) (I := 0) (V := atD' Ds b) (by omega) g1 (by omega) rfl g3 (by omega)) ?_
      refine ev_gv ?_
      rw [h1.1.1]
      refine ev_gg (by first | omega | (constructor <;> omega)) ?_
      refine ev_ite (fun z => ?_) (fun z => ?_)
      · simp only [if_neg (show ¬ (Ds.length < 40 ∧ rk (atD' Ds b) = 4) from fun y => by omega)]
        exact bad S1 _ h1
      refine ev_gcr (q_kindL (d := d - 1) (K := b.toNat) (I := 0) (V := atD' Ds b) (by omega) g1 (by omega) rfl g3 (by omega)) ?_
      refine ev_gg (by first | omega | (constructor <;> omega)) ?_
      refine ev_ite (fun z4 => ?_) (fun z4 => ?_)
      · simp only [if_neg (show ¬ (Ds.length < 40 ∧ rk (atD' Ds b) = 4) from fun y => z4 y.2)]
        exact bad S1 _ h1
      have z5 : rk (atD' Ds b) = 4 := by omega
      have z40 : Ds.length < 40 := by omega
      simp only [if_pos (show Ds.length < 40 ∧ rk (atD' Ds b) = 4 from ⟨z40, z5⟩)]
      refine ev_gc (q_lays (d := d - 1) (K := b.toNat) (A := a.toNat) (M := (kids (atD' Ds b) 0).length) (U := atD' Ds b) (V := atD' Ds a) (by omega) g1 (by omega) e1 (by omega) rfl (Nat.le_refl _) g3 g4 e3 e4) (fun x S2 q2 => ?_)
      obtain ⟨q2, f2⟩ := q2
      rw [List.take_length] at q2
      have h2 := rf_sc h1 f2 (fun c j z => by omega)
      have t2 : S2.1 500 0 = 0 := by rw [fc_i f2 (by omega)]; exact t1
      have dD := fun T => tuT_doc (T := T) g4 e4
      unfold tuT at dD ⊢
      cases hL : laF (atD' Ds b) (kids (atD' Ds b) 0) 0 (atD' Ds a) with
      | inl n =>
        rw [hL] at q2
        obtain ⟨xe, xl⟩ := q2
        subst xe
        refine ev_gg (by first | omega | (constructor <;> omega)) ?_
        refine ev_ite (fun _ => ?_) (fun y => by omega)
        exact bad S2 _ h2
      | inr T2 =>
        rw [hL] at q2 dD
        obtain ⟨xe, l2, dT, _⟩ := q2
        subst xe
        refine ev_gg (by decide) ?_
        refine ev_ite (fun y => absurd rfl y) (fun _ => ?_)
        dsimp only at dD ⊢
        have osk := osk_un g4 e4
        generalize eR : adL (unF (atD' Ds b) (kids (atD' Ds b) 0) (atD' Ds a)) (some []) = R at dD osk ⊢
        -- the end
        have p150 : ∀ S3, LsQ 41 R S3 → S3.1 500 0 = 0 → RfS S0 T0 Ds pg pp r L Q C S3 → Ev (fun n => f_X12_turn n d 150 S3 []) (fun x S1 => match (match R with
            | none => none
            | some Os => if pOK (gpN (ndK 4) Os Os.length) then some (gpN (ndK 4) Os Os.length) else none) with
          | none => S1.1 500 0 = 2 ∧ RfS S0 T0 Ds pg pp r L Q C S1
          | some T => x = (Ds.length : Int) ∧ S1.1 500 0 = 0 ∧ RfS S0 T0 (Ds ++ [T]) pg pp r L Q C S1) := by
          intro S3 l3 t3 h3
          cases R with
          | none =>
            obtain ⟨o1, o2, o3, o4⟩ := l3
            refine ev_up (fun n => e_X12_turn_150) ?_
            unfold b_X12_turn_150
            refine ev_gv ?_
            have bt : bi true = 1 := rfl
            rw [o1, bt]
            refine ev_gg ((Or.inr rfl)) ?_
            refine ev_gv ?_
            have f4 : FC (fun c j => c = 500 ∧ j = 5) S3 (gB S3 500 5 (decide ((1 : Int) = 1))) := fc_gB ⟨rfl, rfl⟩
            have e4 : (gB S3 500 5 (decide ((1 : Int) = 1))).2.1 500 5 = true := gB_a.trans (by decide)
            generalize gB S3 500 5 (decide ((1 : Int) = 1)) = S4 at f4 e4 ⊢
            have h4 := rf_sc h3 f4 (fun c j z => by omega)
            refine ev_gg (by first | omega | (constructor <;> omega)) ?_
            refine ev_gc (q_notWhole (d := d - 1) (K := 41) rfl (by decide) e4) (fun x S5 q5 => ?_)
            obtain ⟨x5, e5⟩ := q5
            subst x5
            subst e5
            have h5 := h4
            refine fa_c (p := False) (by rw [if_neg (fun z => z)]) h5 (fun z => z.elim) (fun _ S6 t6 f6 h6 => ?_)
            refine ev_gg (by decide) ?_
            refine ev_ite (fun z => by omega) (fun _ => ?_)
            exact ev_ret ⟨t6, h6⟩
          | some Os =>
            obtain ⟨l31, l32, l33⟩ := l3
            obtain ⟨o1, o2⟩ := osk Os rfl
            have tr : TR (gpN (ndK 4) Os Os.length) ∧ PZL (gpN (ndK 4) Os Os.length) := ⟨tr_gp (by decide) (fun t ht => (l33 t ht).1), pzl_gp (fun t ht => (l33 t ht).2)⟩
            have em : mny (gpN (ndK 4) Os Os.length) = wZ (ndK 4) Os.length :: (Os.map mny).flatten := mny_gp (by decide) l33
            have gl : (gpN (ndK 4) Os Os.length).length ≤ 100 := by
              unfold gpN
              rw [List.length_cons]
              omega
            have sd : SDC (gpN (ndK 4) Os Os.length) := sdc_gp (by decide) ⟨nr_mk (by decide) (by decide) (by decide) (fun y hy => by cases hy), Or.inr (Or.inr (Or.inr (Or.inr ⟨by decide, rfl, rfl⟩)))⟩ (fun t ht => (o2 t ht).1) (fun z => absurd z (by decide)) (fun _ t ht => (o2 t ht).2) (by omega)
            refine ev_up (fun n => e_X12_turn_150) ?_
            unfold b_X12_turn_150
            refine ev_gv ?_
            have bt : bi false = 0 := rfl
            rw [l31, bt]
            refine ev_gg ((Or.inl rfl)) ?_
            refine ev_gv ?_
            have f4 : FC (fun c j => c = 500 ∧ j = 5) S3 (gB S3 500 5 (decide ((0 : Int) = 1))) := fc_gB ⟨rfl, rfl⟩
            have e4 : (gB S3 500 5 (decide ((0 : Int) = 1))).2.1 500 5 = false := gB_a.trans (by decide)
            generalize gB S3 500 5 (decide ((0 : Int) = 1)) = S4 at f4 e4 ⊢
            have h4 := rf_sc h3 f4 (fun c j z => by omega)
            have t4 : S4.1 500 0 = 0 := by rw [fc_i f4 (by omega)]; exact t3
            have m4 : MD S4 41 (some (wZ (ndK 4) Os.length :: (Os.map mny).flatten)) := ⟨e4, mr_fr l32.2 f4 (fun j _ _ => by omega) (by omega)⟩
            refine ev_gg (by first | omega | (constructor <;> omega)) ?_
            refine ev_gc (q_isWhole (d := d - 1) (K := 41) (T := gpN (ndK 4) Os Os.length) (by omega) rfl (by decide) tr (fun _ y hy => (sd.2.1 y hy).1) (by rw [apM_some (by rw [mny_len]; exact gl), em]; exact m4)) (fun x S5 q5 => ?_)
            obtain ⟨x5, l5, f5⟩ := q5
            have h5 := rf_sc h4 f5 (fun c j z => by omega)
            have t5 : S5.1 500 0 = 0 := by rw [fc_i f5 (by omega)]; exact t4
            dsimp only
            refine fa_c x5 h5 (fun c3 S8 t8 f8 h8 => ?_) (fun c3 S8 t8 f8 h8 => ?_)
            · refine ev_gg (by decide) ?_
              refine ev_ite (fun _ => ?_) (fun z => by omega)
              have dT := dD (gpN (ndK 4) Os Os.length) (if_pos c3)
              refine ev_gc (r_keeps (d := d - 1) (K := 41) (by omega) rfl (by decide) h8 z40 (lk_fr (l5 c3) f8 (fun j _ _ => by omega) (by omega)) dT) (fun y S9 q9 => ?_)
              refine ev_ret ?_
              rw [if_pos c3]
              exact ⟨q9.1, by rw [q9.2.1]; exact t8, q9.2.2⟩
            · refine ev_gg (by decide) ?_
              refine ev_ite (fun z => by omega) (fun _ => ?_)
              refine ev_ret ?_
              rw [if_neg c3]
              exact ⟨t8, h8⟩
        -- one ORDER after the other, from the last
        have lp : ∀ (i : Nat) (S3 : GS) (Vi : List ND), i ≤ (kids (atD' Ds b) 0).length → laF (atD' Ds b) ((kids (atD' Ds b) 0).take i) 0 (atD' Ds a) = .inr Vi → LsQ 41 (adL (unF (atD' Ds b) ((kids (atD' Ds b) 0).drop i) Vi) (some [])) S3 → S3.1 500 0 = 0 → RfS S0 T0 Ds pg pp r L Q C S3 → Ev (fun n => f_X12_turn n d 109 S3 [a, b, (i : Int) - 1]) (fun x S1 => match (match R with
            | none => none
            | some Os => if pOK (gpN (ndK 4) Os Os.length) then some (gpN (ndK 4) Os Os.length) else none) with
          | none => S1.1 500 0 = 2 ∧ RfS S0 T0 Ds pg pp r L Q C S1
          | some T => x = (Ds.length : Int) ∧ S1.1 500 0 = 0 ∧ RfS S0 T0 (Ds ++ [T]) pg pp r L Q C S1) := by
          intro i
          induction i with
          | zero =>
            intro S3 Vi _ hVi l3 t3 h3
            have ev : Vi = atD' Ds a := by
              rw [List.take_zero] at hVi
              have : laF (atD' Ds b) [] 0 (atD' Ds a) = .inr (atD' Ds a) := rfl
              rw [this] at hVi
              exact (Sum.inr.inj hVi).symm
            subst ev
            rw [List.drop_zero, eR] at l3
            refine ev_up (fun n => e_X12_turn_109) ?_
            unfold b_X12_turn_109
            refine ev_gg (by first | omega | (constructor <;> omega)) ?_
            refine ev_ite (fun _ => ?_) (fun y => by omega)
            exact p150 S3 l3 t3 h3
          | succ i ih =>
            intro S3 Vi hi hVi l3 t3 h3
            have il : i < (kids (atD' Ds b) 0).length := by omega
            refine ev_up (fun n => e_X12_turn_109) ?_
            unfold b_X12_turn_109
            refine ev_gg (by first | omega | (constructor <;> omega)) ?_
            refine ev_ite (fun y => by omega) (fun _ => ?_)
            -- the DOCUMENT before
            have eg : (kids (atD' Ds b) 0)[i] = (kids (atD' Ds b) 0).getD i (0 + nz (atD' Ds b) 0) := by
              rw [List.getD_eq_getElem?_getD, List.getElem?_eq_getElem il]
              rfl
            have tk : (kids (atD' Ds b) 0).take (i + 1) = (kids (atD' Ds b) 0).take i ++ [(kids (atD' Ds b) 0).getD i (0 + nz (atD' Ds b) 0)] := by
              rw [List.take_add_one, List.getElem?_eq_getElem il, ← eg]
              rfl
            have dk : (kids (atD' Ds b) 0).drop i = (kids (atD' Ds b) 0).getD i (0 + nz (atD' Ds b) 0) :: (kids (atD' Ds b) 0).drop (i + 1) := by
              rw [List.drop_eq_getElem_cons il, eg]
            have cl : (kids (atD' Ds b) 0).getD i (0 + nz (atD' Ds b) 0) < (atD' Ds b).length := kids_lt g4 _ (by rw [← eg]; exact List.getElem_mem il)
            obtain ⟨k, ek⟩ : ∃ k, (kids (atD' Ds b) 0).getD i (0 + nz (atD' Ds b) 0) = k := ⟨_, rfl⟩
            rw [ek] at tk dk cl
            rw [tk, laF_app] at hVi
            cases hP : laF (atD' Ds b) ((kids (atD' Ds b) 0).take i) 0 (atD' Ds a) with
            | inl m => rw [hP] at hVi; cases hVi
            | inr Vp =>
              rw [hP] at hVi
              dsimp only at hVi
              rw [laF_c] at hVi
              cases hS : loS (atD' Ds b) k Vp with
              | none => rw [hS] at hVi; cases hVi
              | some T3 =>
                rw [hS] at hVi
                have eT : T3 = Vi := Sum.inr.inj hVi
                subst eT
                have eu : unF (atD' Ds b) (k :: (kids (atD' Ds b) 0).drop (i + 1)) Vp = unF (atD' Ds b) ((kids (atD' Ds b) 0).drop (i + 1)) T3 ++ unL (atD' Ds b) k Vp := by
                  have : unF (atD' Ds b) (k :: (kids (atD' Ds b) 0).drop (i + 1)) Vp = match loS (atD' Ds b) k Vp with
                    | none => []
                    | some T => unF (atD' Ds b) ((kids (atD' Ds b) 0).drop (i + 1)) T ++ unL (atD' Ds b) k Vp := rfl
                  rw [this, hS]
                -- all ORDERS from here
                have all : R = adL (unF (atD' Ds b) ((kids (atD' Ds b) 0).take i) (atD' Ds a)) (adL (unF (atD' Ds b) ((kids (atD' Ds b) 0).drop i) Vp) (some [])) := by
                  rw [← eR, ← adL_app, ← unF_app _ _ _ _ _ hP, List.take_append_drop]
                refine ev_gv ?_
                cases hA : adL (unF (atD' Ds b) ((kids (atD' Ds b) 0).drop (i + 1)) T3) (some []) with
                | none =>
                  rw [hA] at l3
                  rw [dk, eu, adL_app, hA, adL_none, adL_none] at all
                  have bt : bi true = 1 := rfl
                  rw [l3.1, bt]
                  refine ev_gg (by decide) ?_
                  refine ev_ite (fun _ => ?_) (fun z => by omega)
                  subst all
                  exact p150 S3 l3 t3 h3
                | some Os =>
                  have l31 := l3
                  rw [hA] at l31
                  have bt : bi false = 0 := rfl
                  rw [l31.1, bt]
                  refine ev_gg (by decide) ?_
                  refine ev_ite (fun z => by omega) (fun _ => ?_)
                  refine ev_gg (by first | omega | (constructor <;> omega)) ?_
                  obtain ⟨a1, a2, a3, a4⟩ := r_at h3 c.1
                  obtain ⟨b1, b2, b3, b4⟩ := r_at h3 c.2
                  rw [show ((i + 1 : Nat) : Int) - 1 = (i : Int) by omega]
                  refine ev_gc (q_lays (d := d - 1) (K := b.toNat) (A := a.toNat) (M := i) (U := atD' Ds b) (V := atD' Ds a) (by omega) b1 (by omega) a1 (by omega) rfl (by omega) b3 b4 a3 a4) (fun x S4 q4 => ?_)
                  obtain ⟨q4, f4⟩ := q4
                  rw [hP] at q4
                  obtain ⟨_, l4, d4, b4'⟩ := q4
                  have h4 := rf_sc h3 f4 (fun c j z => by omega)
                  have t4 : S4.1 500 0 = 0 := by rw [fc_i f4 (by omega)]; exact t3
                  have ls4 : LsQ 41 (adL (unF (atD' Ds b) ((kids (atD' Ds b) 0).drop (i + 1)) T3) (some [])) S4 := by
                    rw [hA] at l3 ⊢
                    exact ⟨by rw [fc_b f4 (by omega)]; exact l3.1, ⟨b4' l3.2.1.1, mr_fr l3.2.1.2 f4 (fun j _ _ => by omega) (by omega)⟩, l3.2.2⟩
                  obtain ⟨c1, c2, c3, c4⟩ := r_at h4 c.2
                  refine ev_gcr (q_childAt (d := d - 1) (K := b.toNat) (G := 0) (P := i) (V := atD' Ds b) (by omega) c1 (by omega) rfl rfl c3 g4.1.1.1.1 g4.1.1.2 (by omega) (by omega)) ?_
                  rw [ek]
                  refine ev_gc (q_undoes (d := d - 1) (K := b.toNat) (U := atD' Ds b) (V := Vp) (by omega) c1 (by omega) c3 c4 cl l4 d4 hS ⟨Os, hA⟩ ls4) (fun _ S5 q5 => ?_)
                  obtain ⟨l5, f5⟩ := q5
                  have h5 := rf_sc h4 f5 (fun c j z => by omega)
                  have t5 : S5.1 500 0 = 0 := by rw [fc_i f5 (by omega)]; exact t4
                  refine ev_gv ?_
                  rw [show (i : Int) + (-1) = (i : Int) - 1 by omega]
                  refine ih S5 Vp (by omega) hP ?_ t5 h5
                  rw [dk, eu, adL_app]
                  exact l5
        -- the row
        refine ev_up (fun n => e_X12_turn_75) ?_
        unfold b_X12_turn_75
        refine ev_gg (by first | omega | (constructor <;> omega)) ?_
        refine fa_c (p := True) (by rw [if_pos trivial]) h2 (fun _ S3 t3 f3 h3 => ?_) (fun z => absurd trivial z)
        refine ev_gg (by decide) ?_
        refine ev_ite (fun _ => ?_) (fun z => by omega)
        refine ev_gc (q_begin1 (d := d - 1) (k := 41) (K := 41) rfl (by decide)) (fun _ S4 q4 => ?_)
        obtain ⟨m4, f4⟩ := q4
        have h4 := rf_sc h3 f4 (fun c j z => by omega)
        refine ev_gv ?_
        have f5 : FC (fun c j => c = 500 ∧ j = 38) S4 (gB S4 500 38 (decide ((0 : Int) = 1))) := fc_gB ⟨rfl, rfl⟩
        have e5 : (gB S4 500 38 (decide ((0 : Int) = 1))).2.1 500 38 = false := gB_a.trans (by decide)
        generalize gB S4 500 38 (decide ((0 : Int) = 1)) = S5 at f5 e5 ⊢
        have h5 := rf_sc h4 f5 (fun c j z => by omega)
        refine ev_gc (q_added (d := d - 1) (K := 41) (by omega) rfl (by decide) (by decide) (mdr_fr m4 f5 (fun j _ _ => by omega) (by omega) (by omega))) (fun _ S6 q6 => ?_)
        obtain ⟨m6, f6, _⟩ := q6
        have h6 := rf_sc h5 f6 (fun c j z => by omega)
        have t6 : S6.1 500 0 = 0 := by rw [fc_i f6 (by omega), fc_i f5 (by omega), fc_i f4 (by omega)]; exact t3
        refine ev_gv ?_
        refine lp (kids (atD' Ds b) 0).length S6 T2 (Nat.le_refl _) (by rw [List.take_length]; exact hL) ?_ t6 h6
        rw [List.drop_length]
        exact ⟨by rw [fc_b f6 (by omega)]; exact e5, m6, fun t ht => by cases ht⟩
    · refine ev_gg (by decide) ?_
      refine ev_ite (fun z => by omega) (fun _ => ?_)
      simp only [if_neg c]
      exact ev_ret ⟨t1, h1⟩
  refine ev_up (fun n => e_X12_turn_0) ?_
  unfold b_X12_turn_0
  refine ev_gg (by first | omega | (constructor <;> omega)) ?_
  refine ev_gcr (r_isDoc (d := d - 1) (by omega) ha h) ?_
  by_cases c : hasD Ds a
  · rw [if_pos c]
    refine ev_gg (by decide) ?_
    refine ev_ite (fun z => by omega) (fun _ => ?_)
    refine ev_gcr (r_isDoc (d := d - 1) (by omega) hb h) ?_
    by_cases c2 : hasD Ds b
    · rw [if_pos c2]
      refine ev_gg (by decide) ?_
      refine ev_ite (fun z => by omega) (fun _ => ?_)
      exact p22 1 (by rw [if_pos ⟨c, c2⟩])
    · rw [if_neg c2]
      refine ev_gg (by decide) ?_
      refine ev_ite (fun _ => ?_) (fun z => by omega)
      exact p22 0 (by rw [if_neg (fun z => c2 z.2)])
  · rw [if_neg c]
    refine ev_gg (by decide) ?_
    refine ev_ite (fun _ => ?_) (fun z => by omega)
    exact p22 0 (by rw [if_neg (fun z => c z.1)])
end RTU
