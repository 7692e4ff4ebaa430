/-! THE REFERENCE's lay -/
abbrev dsP : Nat → Nat → Prop := fun c j => doP 42 c j ∨ doP 43 c j ∨ doP 44 c j ∨ oiP c j ∨ plP c j ∨ eqP c j ∨ c = 505 ∨ c = 506
theorem ds_42 {c j : Nat} (z : doP 42 c j) : dsP c j := Or.inl z
theorem ds_43 {c j : Nat} (z : doP 43 c j) : dsP c j := Or.inr (Or.inl z)
theorem ds_44 {c j : Nat} (z : doP 44 c j) : dsP c j := Or.inr (Or.inr (Or.inl z))
theorem ds_oi {c j : Nat} (z : oiP c j) : dsP c j := Or.inr (Or.inr (Or.inr (Or.inl z)))
theorem ds_wd {c j : Nat} (z : wdP c j) : dsP c j := ds_oi (Or.inr z)
theorem ds_pl {c j : Nat} (z : plP c j) : dsP c j := Or.inr (Or.inr (Or.inr (Or.inr (Or.inl z))))
theorem ds_eq {c j : Nat} (z : eqP c j) : dsP c j := Or.inr (Or.inr (Or.inr (Or.inr (Or.inr (Or.inl z)))))
theorem ds_s {c j : Nat} (z : c = 505 ∨ c = 506) : dsP c j := Or.inr (Or.inr (Or.inr (Or.inr (Or.inr (Or.inr z)))))
theorem ds_c43 {c j : Nat} (z : cpP 43 c j) : dsP c j := z.elim ds_43 (fun y => y.elim ds_pl ds_s)
theorem ds_c44 {c j : Nat} (z : cpP 44 c j) : dsP c j := z.elim ds_44 (fun y => y.elim ds_pl ds_s)
theorem ds_rep {c j : Nat} (z : doP 43 c j ∨ wdP c j) : dsP c j := z.elim ds_43 ds_wd
theorem ds_wh {c j : Nat} (z : whP 43 c j) : dsP c j := z.elim (fun y => ds_43 (Or.inl y)) ds_s
theorem ds_be {c j : Nat} (z : (c = 501 ∧ 6161 * 42 ≤ j ∧ j < 6161 * 42 + 6161) ∨ (c = 502 ∧ j = 42)) : dsP c j := z.elim (fun y => ds_42 (Or.inl y)) (fun y => ds_42 (Or.inr (Or.inl y)))
section RLA
variable {S : GS} {d K : Nat} {U V : List ND} {c : Nat}
/-- the PATH that an ORDER tells -/
theorem q_pathNamed {a : Int} {q : List Int} (hd : 5 ≤ d) (ha : inl a) (e : lw a = q) (hK : K < 48) (h : LK S K U) (hU : TR U ∧ PZL U) (hc : c < U.length) (h5 : nk U c = 5) (h3 : kdI U (vLk U (c : Int) q) = 3) : Ev (fun n => f_X12_pathNamed n d 0 S [(K : Int), (c : Int), a]) (fun _ S1 => PaS S1 (tI U (vLk U (c : Int) q)) ∧ FC oiP S S1) := by
  have m := kdI_m h3
  obtain ⟨v, ev, vl⟩ := vl_at (c := c) (q := q) hU (by omega)
  refine ev_up (fun n => e_X12_pathNamed_0) ?_
  unfold b_X12_pathNamed_0
  refine ev_gg (by first | omega | (constructor <;> omega)) ?_
  refine ev_gc (q_orNamed (d := d - 1) (q := q) (by omega) ha e hK h hU hc h5) (fun y S1 q1 => ?_)
  obtain ⟨ye, f1⟩ := q1
  subst ye
  rw [ev] at h3 ⊢
  rw [kdI_n vl] at h3
  refine ev_gc (q_pathOf (d := d - 1) (by omega) rfl hK rfl (lk_fr h f1 (fun j _ _ => by omega) (by omega)) vl) (fun _ S2 q2 => ?_)
  obtain ⟨pa, f2⟩ := q2
  have et : sgN (U.getD v nd0) = tI U (v : Int) := by
    rw [tI_n vl]
    exact sgN_t (by show nk U v ≠ 2; omega)
  rw [et] at pa
  exact ev_ret ⟨pa, fc_tr (fc_mono f1 (fun c j z => Or.inr z)) (fc_mono f2 (fun c j z => Or.inl z))⟩
theorem q_plainAll {l : List Int} {k : Int} (hd : 8 ≤ d) (hk : k = (K : Int)) (hK : K < 48) (h : PaS S l) (hp : isP l) (hv : LK S K V) (hV : TR V ∧ PZL V) : Ev (fun n => f_X12_plain n d 0 S [k, (l.length : Int)]) (fun x S1 => x = ldT l V (nW l) ∧ FC plP S S1) :=
  q_plain hd hk hK h hp (Nat.le_refl _) (by rw [stA_hi (Int.le_refl _)]; omega) hv hV
theorem q_does (hd : 15 ≤ d) (hK : K < 42) (h : LK S K U) (hU : DOC U) (hc : c < U.length) (hv : LK S 42 V) (hV : DOC V) : Ev (fun n => f_X12_does n d 0 S [(K : Int), (c : Int)]) (fun x S1 => (match loS U c V with
    | none => x = 0 ∧ LK S1 42 V
    | some T => x = 1 ∧ LK S1 42 T ∧ DOC T ∧ (S.2.1 500 5 = false → S1.2.1 500 5 = false)) ∧ FC dsP S S1) := by
  have hU0 := hU.1.1
  have hV0 := hV.1.1
  have l100 := h.2.1
  have lv100 := hv.2.1
  rw [lyS_op hU0 hV]
  have no : ∀ S1, FC dsP S S1 → LK S1 42 V → Ev (fun _ => some ((0 : Int), S1)) (fun x S1 => (match (none : Option (List ND)) with
    | none => x = 0 ∧ LK S1 42 V
    | some T => x = 1 ∧ LK S1 42 T ∧ DOC T ∧ (S.2.1 500 5 = false → S1.2.1 500 5 = false)) ∧ FC dsP S S1) := fun S1 f1 v1 => ev_ret ⟨⟨rfl, v1⟩, f1⟩
  have p251 : ∀ (S1 : GS) (x : Int) (o : Option (List ND)), x = (match o with | none => 0 | some _ => 1) → (∀ T, o = some T → LK S1 43 T ∧ DOC T ∧ (S.2.1 500 5 = false → S1.2.1 500 5 = false)) → FC dsP S S1 → LK S1 42 V → Ev (fun n => f_X12_does n d 251 S1 [x]) (fun x S1 => (match o with
    | none => x = 0 ∧ LK S1 42 V
    | some T => x = 1 ∧ LK S1 42 T ∧ DOC T ∧ (S.2.1 500 5 = false → S1.2.1 500 5 = false)) ∧ FC dsP S S1) := by
    intro S1 x o hx ho f1 v1
    cases o with
    | none =>
      have hx' : x = 0 := hx
      subst hx'
      refine ev_up (fun n => e_X12_does_251) ?_
      unfold b_X12_does_251
      refine ev_gg (by decide) ?_
      refine ev_ite (fun _ => ?_) (fun z => by omega)
      refine ev_gg (by decide) ?_
      exact ev_ret ⟨⟨rfl, v1⟩, f1⟩
    | some T =>
      have hx' : x = 1 := hx
      subst hx'
      obtain ⟨t1, dT, h5T⟩ := ho T rfl
      have tl := t1.2.1
      refine ev_up (fun n => e_X12_does_251) ?_
      unfold b_X12_does_251
      refine ev_gg (by decide) ?_
      refine ev_ite (fun z => by omega) (fun _ => ?_)
      refine ev_gg (by first | omega | (constructor <;> omega)) ?_
      refine ev_gc (q_becomes (d := d - 1) (K := 42) (F := 43) (m := T.length) (by omega) rfl (by decide) rfl (by decide) (by decide) t1.1 (by omega)) (fun _ S2 q2 => ?_)
      obtain ⟨b1, b2, f2⟩ := q2
      refine ev_gg (by decide) ?_
      exact ev_ret ⟨⟨rfl, lk_cp t1 b1 b2, dT, fun z => (fc_b f2 (by omega)).trans (h5T z)⟩, fc_tr f1 (fc_mono f2 (fun c j z => by first | exact ds_oi z | exact ds_wd z | exact ds_pl z | exact ds_eq z | exact ds_c43 z | exact ds_c44 z | exact ds_rep z | exact ds_wh z | exact ds_be z))⟩
  refine ev_up (fun n => e_X12_does_0) ?_
  unfold b_X12_does_0
  refine ev_gg (by first | omega | (constructor <;> omega)) ?_
  refine ev_gc (q_opOf (d := d - 1) (by omega) (by omega) h hU0 hc) (fun y S3 q3 => ?_)
  obtain ⟨ye, f3⟩ := q3
  subst ye
  have h3 := lk_fr h f3 (fun j _ _ => by omega) (by omega)
  have v3 := lk_fr hv f3 (fun j _ _ => by omega) (by omega)
  have f03 : FC dsP S S3 := fc_mono f3 (fun c j z => by first | exact ds_oi z | exact ds_wd z | exact ds_pl z | exact ds_eq z | exact ds_c43 z | exact ds_c44 z | exact ds_rep z | exact ds_wh z | exact ds_be z)
  by_cases c0 : opN U c = -1
  · rw [if_pos c0, c0]
    refine ev_gg (by decide) ?_
    refine ev_ite (fun z => absurd rfl z) (fun _ => ?_)
    exact no S3 f03 v3
  rw [if_neg c0]
  obtain ⟨⟨h5, k3, pw⟩, tl, o0, o5⟩ := opN_ok c0
  refine ev_gg (by first | omega | (constructor <;> omega)) ?_
  refine ev_ite (fun _ => ?_) (fun z => absurd c0 z)
  refine ev_gc (q_orNamed (d := d - 1) (q := sx 24) (by omega) (by decide) lw_value (by omega) h3 hU0 hc h5) (fun y S8 q8 => ?_)
  obtain ⟨ye, f8⟩ := q8
  have ye' : y = vaI U c := ye
  subst ye'
  have h8 := lk_fr h3 f8 (fun j _ _ => by omega) (by omega)
  have v8 := lk_fr v3 f8 (fun j _ _ => by omega) (by omega)
  have f08 : FC dsP S S8 := fc_tr f03 (fc_mono f8 (fun c j z => by first | exact ds_oi z | exact ds_wd z | exact ds_pl z | exact ds_eq z | exact ds_c43 z | exact ds_c44 z | exact ds_rep z | exact ds_wh z | exact ds_be z))
  have pN := fun (S1 : GS) (h1 : LK S1 K U) => q_pathNamed (S := S1) (d := d - 1) (K := K) (q := sx 23) (by omega) (by decide) lw_path (by omega) h1 hU0 hc h5 k3
  have pF := fun (S1 : GS) (h1 : LK S1 K U) (kf : kdI U (frI U c) = 3) => q_pathNamed (S := S1) (d := d - 1) (K := K) (q := sx 27) (by omega) (by decide) lw_from (by omega) h1 hU0 hc h5 kf
  have lfr : ∀ {S1 S2 : GS}, FC oiP S1 S2 → (LK S1 K U → LK S2 K U) ∧ (LK S1 42 V → LK S2 42 V) := fun hf => ⟨fun z => lk_fr z hf (fun j _ _ => by omega) (by omega), fun z => lk_fr z hf (fun j _ _ => by omega) (by omega)⟩
  have va : opN U c ≠ 1 → ¬ (opN U c = 3 ∨ opN U c = 4) → ∃ v : Nat, vaI U c = (v : Int) ∧ v < U.length := fun a b => by
    have e : tlQ U c (opN U c) = (opN U c = 1 ∨ vaI U c ≠ -1) := if_neg b
    rw [e] at tl
    rcases tl with z | z
    · exact absurd z a
    · exact vl_at hU0 z
  have fr : (opN U c = 3 ∨ opN U c = 4) → kdI U (frI U c) = 3 ∧ isP (tI U (frI U c)) := fun b => by
    have e : tlQ U c (opN U c) = (kdI U (frI U c) = 3 ∧ isP (tI U (frI U c))) := if_pos b
    rw [e] at tl
    exact tl
  have ldi : ∀ l : List Int, inr (ldT l V (nW l)) := fun l => by
    rcases ld_ok (l := l) hV0 (nW l) with z | z
    · rw [z]; decide
    · constructor <;> omega
  have p91 : (opN U c = 2 ∨ opN U c = 5) → Ev (fun n => f_X12_does n d 91 S8 [(K : Int), (c : Int), opN U c, vaI U c]) (fun x S1 => (match (if opN U c = 2 then (if ldT (tI U (wyI U c)) V (nW (tI U (wyI U c))) = -1 then none else if pOK (updF (fun t => kyT (sg U (vaI U c).toNat) (rq t)) V.length V (ldT (tI U (wyI U c)) V (nW (tI U (wyI U c)))).toNat) then some (updF (fun t => kyT (sg U (vaI U c).toNat) (rq t)) V.length V (ldT (tI U (wyI U c)) V (nW (tI U (wyI U c)))).toNat) else none) else (if ldT (tI U (wyI U c)) V (nW (tI U (wyI U c))) = -1 then none else if smJ 13 V (ldT (tI U (wyI U c)) V (nW (tI U (wyI U c)))).toNat U (vaI U c) then some V else none) : Option (List ND)) with
    | none => x = 0 ∧ LK S1 42 V
    | some T => x = 1 ∧ LK S1 42 T ∧ DOC T ∧ (S.2.1 500 5 = false → S1.2.1 500 5 = false)) ∧ FC dsP S S1) := by
    intro ho
    obtain ⟨v, ev, vl⟩ := va (by omega) (by omega)
    refine ev_up (fun n => e_X12_does_91) ?_
    unfold b_X12_does_91
    refine ev_gg (by first | omega | (constructor <;> omega)) ?_
    refine ev_gc (pN S8 h8) (fun _ S9 q9 => ?_)
    obtain ⟨pa, f9⟩ := q9
    have h9 := (lfr f9).1 h8
    have v9 := (lfr f9).2 v8
    have f09 : FC dsP S S9 := fc_tr f08 (fc_mono f9 (fun c j z => by first | exact ds_oi z | exact ds_wd z | exact ds_pl z | exact ds_eq z | exact ds_c43 z | exact ds_c44 z | exact ds_rep z | exact ds_wh z | exact ds_be z))
    have wy : tI U (vLk U (c : Int) (sx 23)) = tI U (wyI U c) := rfl
    rw [wy] at pa
    refine ev_gv ?_
    rw [pa.1]
    refine ev_gc (q_plainAll (d := d - 1) (K := 42) (V := V) (by omega) rfl (by decide) pa pw v9 hV0) (fun y S10 q10 => ?_)
    obtain ⟨ye, f10⟩ := q10
    subst ye
    have h10 := lk_fr h9 f10 (fun j _ _ => by omega) (by omega)
    have v10 := lk_fr v9 f10 (fun j _ _ => by omega) (by omega)
    have f010 : FC dsP S S10 := fc_tr f09 (fc_mono f10 (fun c j z => by first | exact ds_oi z | exact ds_wd z | exact ds_pl z | exact ds_eq z | exact ds_c43 z | exact ds_c44 z | exact ds_rep z | exact ds_wh z | exact ds_be z))
    have li := ldi (tI U (wyI U c))
    have lo := ld_ok (l := tI U (wyI U c)) hV0 (nW (tI U (wyI U c)))
    generalize tI U (wyI U c) = l at *
    generalize ldT l V (nW l) = x7 at *
    have sbU := sdc_sg U.length U (Nat.le_refl _) hU.1 v vl
    refine ev_gg (li) ?_
    refine ev_ite (fun cl => ?_) (fun cl => ?_)
    · have e : (if opN U c = 2 then (if x7 = -1 then none else if pOK (updF (fun t => kyT (sg U (vaI U c).toNat) (rq t)) V.length V x7.toNat) then some (updF (fun t => kyT (sg U (vaI U c).toNat) (rq t)) V.length V x7.toNat) else none) else (if x7 = -1 then none else if smJ 13 V x7.toNat U (vaI U c) then some V else none) : Option (List ND)) = none := by
        split
        · rfl
        · rfl
      rw [e]
      refine ev_up (fun n => e_X12_does_123) ?_
      unfold b_X12_does_123
      refine ev_gg (li) ?_
      refine ev_ite (fun _ => ?_) (fun z => absurd cl z)
      exact no S10 f010 v10
    · obtain ⟨n7, e7, l7⟩ : ∃ n7 : Nat, x7 = (n7 : Int) ∧ n7 < V.length := by
        rcases lo with z | z
        · exact absurd z cl
        · exact ⟨x7.toNat, by omega, by omega⟩
      subst e7
      rw [ev]
      rw [if_neg cl, if_neg cl, Int.toNat_natCast, Int.toNat_natCast]
      refine ev_gg (by first | omega | (constructor <;> omega)) ?_
      refine ev_ite (fun z5 => ?_) (fun z5 => ?_)
      · rw [if_pos (show opN U c = 2 by omega)]
        refine ev_gc (q_replaced (d := d - 1) (K := 43) (F := 42) (I := n7) (G := K) (J := v) (V := V) (U := U) (by omega) rfl (by decide) rfl (by decide) rfl rfl (by omega) rfl (by decide) (by omega) hV0 hU0 v10 h10 l7 vl) (fun _ S11 q11 => ?_)
        obtain ⟨m11, f11⟩ := q11
        have v11 := lk_fr v10 f11 (fun j _ _ => by omega) (by omega)
        have f011 : FC dsP S S11 := fc_tr f010 (fc_mono f11 (fun c j z => by first | exact ds_oi z | exact ds_wd z | exact ds_pl z | exact ds_eq z | exact ds_c43 z | exact ds_c44 z | exact ds_rep z | exact ds_wh z | exact ds_be z))
        have sv := sdc_sg V.length V (Nat.le_refl _) hV.1 n7 l7
        have kr := (sv.2.1 _ (nd_mem sv.1.1.2.1)).1
        have sk : SDC (kyT (sg U v) (rq (sg V n7))) := sdc_ky sbU kr.2.2.2.2.2.2.2.2.2 kr.2.2.2.2.2.2.2.2.1
        have tr := (upd_tr (h := fun c => kyT (sg U v) (rq c)) V.length V n7 (Nat.le_refl _) hV0 l7 sk.1).1
        have sd : (updF (fun t => kyT (sg U v) (rq t)) V.length V n7).length ≤ 100 → SDC (updF (fun t => kyT (sg U v) (rq t)) V.length V n7) ∧ rq (updF (fun t => kyT (sg U v) (rq t)) V.length V n7) = [] := fun hl => by
          have := upd_sdc (h := fun c => kyT (sg U v) (rq c)) V.length V n7 (Nat.le_refl _) hV.1 l7 sk rfl hl
          exact ⟨this.1, this.2.trans hV.2.2.2⟩
        refine ev_gc (q_isWhole (d := d - 1) (K := 43) (T := updF (fun t => kyT (sg U v) (rq t)) V.length V n7) (by omega) rfl (by decide) tr (fun hl y hy => ((sd hl).1.2.1 y hy).1) m11) (fun x S12 q12 => ?_)
        obtain ⟨x12, l12, f12⟩ := q12
        have v12 := lk_fr v11 f12 (fun j _ _ => by omega) (by omega)
        have f012 : FC dsP S S12 := fc_tr f011 (fc_mono f12 (fun c j z => by first | exact ds_oi z | exact ds_wd z | exact ds_pl z | exact ds_eq z | exact ds_c43 z | exact ds_c44 z | exact ds_rep z | exact ds_wh z | exact ds_be z))
        refine p251 S12 x _ ?_ (fun T hT => ?_) f012 v12
        · rw [x12]
          split <;> rfl
        · by_cases cp : pOK (updF (fun t => kyT (sg U v) (rq t)) V.length V n7)
          · rw [if_pos cp] at hT
            have e := Option.some.inj hT
            subst e
            refine ⟨l12 cp, doc_p (sd cp.1).1 cp (sd cp.1).2, fun _ => ?_⟩
            rw [fc_b f12 (by omega)]
            rw [apM_some (by rw [mny_len]; exact cp.1)] at m11
            exact m11.1
          · rw [if_neg cp] at hT
            cases hT
      · rw [if_neg (show ¬ opN U c = 2 by omega)]
        have ej : smJ 13 V n7 U (v : Int) = smF 13 (sg V n7) (sg U v) := by
          unfold smJ
          rw [if_pos (by omega), Int.toNat_natCast]
        rw [ej]
        refine ev_up (fun n => e_X12_does_123) ?_
        unfold b_X12_does_123
        refine ev_gg (by first | omega | (constructor <;> omega)) ?_
        refine ev_ite (fun z => by omega) (fun _ => ?_)
        refine ev_gg (by first | omega | (constructor <;> omega)) ?_
        refine ev_gc (q_areEqual (d := d - 1) (K := 42) (F := K) (I := n7) (J := v) (V := V) (U := U) (by omega) rfl (by decide) rfl rfl (by omega) rfl v10 h10 hV.1 hU.1 l7 vl (doc_sg hV l7).2.1 (doc_sg hU vl).2.1) (fun y S11 q11 => ?_)
        obtain ⟨ye, f11⟩ := q11
        have v11 := lk_fr v10 f11 (fun j _ _ => by omega) (by omega)
        have f011 : FC dsP S S11 := fc_tr f010 (fc_mono f11 (fun c j z => by first | exact ds_oi z | exact ds_wd z | exact ds_pl z | exact ds_eq z | exact ds_c43 z | exact ds_c44 z | exact ds_rep z | exact ds_wh z | exact ds_be z))
        subst ye
        by_cases cs : smF 13 (sg V n7) (sg U v) = true
        · rw [if_pos cs, if_pos cs]
          refine ev_gg (by decide) ?_
          refine ev_ite (fun z => by omega) (fun _ => ?_)
          exact ev_ret ⟨⟨rfl, v11, hV, fun z => by rw [fc_b f11 (by omega), fc_b f10 (by omega), fc_b f9 (by omega), fc_b f8 (by omega), fc_b f3 (by omega)]; exact z⟩, f011⟩
        · rw [if_neg cs, if_neg cs]
          refine ev_gg (by decide) ?_
          refine ev_ite (fun _ => ?_) (fun z => by omega)
          exact no S11 f011 v11
  have p218 : (opN U c = 3 ∨ opN U c = 4) → ∀ (S1 : GS) (n7 : Nat) (V1 : List ND), n7 < V.length → (opN U c = 3 → LK S1 44 V1 ∧ DOC V1) → FC dsP S S1 → LK S1 K U → LK S1 42 V → Ev (fun n => f_X12_does n d 218 S1 [(K : Int), (c : Int), opN U c, (n7 : Int)]) (fun x S1 => (match (if opN U c = 3 then lyP (tI U (wyI U c)) V1 (sg V n7) else lyP (tI U (wyI U c)) V (sg V n7)) with
    | none => x = 0 ∧ LK S1 42 V
    | some T => x = 1 ∧ LK S1 42 T ∧ DOC T ∧ (S.2.1 500 5 = false → S1.2.1 500 5 = false)) ∧ FC dsP S S1) := by
    intro ho S1 n7 V1 l7 h44 f1 h1 v1
    have sv := sdc_sg V.length V (Nat.le_refl _) hV.1 n7 l7
    refine ev_up (fun n => e_X12_does_218) ?_
    unfold b_X12_does_218
    refine ev_gg (by first | omega | (constructor <;> omega)) ?_
    refine ev_gc (pN S1 h1) (fun _ S9 q9 => ?_)
    obtain ⟨pa, f9⟩ := q9
    have v9 := (lfr f9).2 v1
    have f09 : FC dsP S S9 := fc_tr f1 (fc_mono f9 (fun c j z => by first | exact ds_oi z | exact ds_wd z | exact ds_pl z | exact ds_eq z | exact ds_c43 z | exact ds_c44 z | exact ds_rep z | exact ds_wh z | exact ds_be z))
    have wy : tI U (vLk U (c : Int) (sx 23)) = tI U (wyI U c) := rfl
    rw [wy] at pa
    have rl : rng (tI U (wyI U c)) := pa.2.2.2
    refine ev_gg (by first | omega | (constructor <;> omega)) ?_
    refine ev_ite (fun z => ?_) (fun z => ?_)
    · rw [if_neg z]
      refine ev_gc (ev_and (q_canPut (d := d - 1) (K := 43) (F := 42) (G := 42) (J := n7) (V := V) (U := V) (by omega) rfl (by decide) rfl (by decide) rfl (by decide) rfl (by decide) (by decide) hV.1 hV.2.2.2 hV.1 l7 v9 v9 pa pw) (q_canPut5 (d := d - 1) (K := 43) (F := 42) (G := 42) (J := n7) (V := V) (U := V) (by omega) rfl (by decide) rfl (by decide) rfl (by decide) rfl (by decide) (by decide) hV.1 hV.2.2.2 hV.1 l7 v9 v9 pa pw)) (fun x S10 q10 => ?_)
      obtain ⟨⟨x10, l10, f10⟩, _, _, _, b10⟩ := q10
      have v10 := lk_fr v9 f10 (fun j _ _ => by omega) (by omega)
      refine p251 S10 x _ ?_ (fun T hT => ⟨l10 T hT, lyP_doc hV rl sv hT, fun _ => b10 T hT⟩) (fc_tr f09 (fc_mono f10 (fun c j z => by first | exact ds_oi z | exact ds_wd z | exact ds_pl z | exact ds_eq z | exact ds_c43 z | exact ds_c44 z | exact ds_rep z | exact ds_wh z | exact ds_be z))) v10
      rw [x10]
      generalize lyP _ _ _ = o
      cases o <;> rfl
    · have z3 : opN U c = 3 := by omega
      obtain ⟨l44, d44⟩ := h44 z3
      have l449 := lk_fr l44 f9 (fun j _ _ => by omega) (by omega)
      rw [if_pos z3]
      refine ev_gc (ev_and (q_canPut (d := d - 1) (K := 43) (F := 44) (G := 42) (J := n7) (V := V1) (U := V) (by omega) rfl (by decide) rfl (by decide) rfl (by decide) rfl (by decide) (by decide) d44.1 d44.2.2.2 hV.1 l7 l449 v9 pa pw) (q_canPut5 (d := d - 1) (K := 43) (F := 44) (G := 42) (J := n7) (V := V1) (U := V) (by omega) rfl (by decide) rfl (by decide) rfl (by decide) rfl (by decide) (by decide) d44.1 d44.2.2.2 hV.1 l7 l449 v9 pa pw)) (fun x S10 q10 => ?_)
      obtain ⟨⟨x10, l10, f10⟩, _, _, _, b10⟩ := q10
      have v10 := lk_fr v9 f10 (fun j _ _ => by omega) (by omega)
      refine p251 S10 x _ ?_ (fun T hT => ⟨l10 T hT, lyP_doc d44 rl sv hT, fun _ => b10 T hT⟩) (fc_tr f09 (fc_mono f10 (fun c j z => by first | exact ds_oi z | exact ds_wd z | exact ds_pl z | exact ds_eq z | exact ds_c43 z | exact ds_c44 z | exact ds_rep z | exact ds_wh z | exact ds_be z))) v10
      rw [x10]
      generalize lyP _ _ _ = o
      cases o <;> rfl
  have wy : tI U (vLk U (c : Int) (sx 23)) = tI U (wyI U c) := rfl
  refine ev_ite (fun z0 => ?_) (fun z0 => ?_)
  · rw [if_neg z0]
    refine ev_ite (fun z1 => ?_) (fun z1 => ?_)
    · rw [if_neg z1]
      refine ev_ite (fun z2 => ?_) (fun z2 => ?_)
      · have := p91 (Or.inl z2)
        rw [if_pos z2] at this ⊢
        exact this
      rw [if_neg z2]
      refine ev_ite (fun z5 => ?_) (fun z5 => ?_)
      · have h34 : opN U c = 3 ∨ opN U c = 4 := by omega
        obtain ⟨kf, pf⟩ := fr h34
        refine ev_gc (pF S8 h8 kf) (fun _ S15 q15 => ?_)
        obtain ⟨pa, f15⟩ := q15
        have h15 := (lfr f15).1 h8
        have v15 := (lfr f15).2 v8
        have f015 : FC dsP S S15 := fc_tr f08 (fc_mono f15 (fun c j z => by first | exact ds_oi z | exact ds_wd z | exact ds_pl z | exact ds_eq z | exact ds_c43 z | exact ds_c44 z | exact ds_rep z | exact ds_wh z | exact ds_be z))
        have fe : tI U (vLk U (c : Int) (sx 27)) = tI U (frI U c) := rfl
        rw [fe] at pa
        refine ev_gv ?_
        rw [pa.1]
        refine ev_gc (q_plainAll (d := d - 1) (K := 42) (V := V) (by omega) rfl (by decide) pa pf v15 hV0) (fun y S20 q20 => ?_)
        obtain ⟨ye, f20⟩ := q20
        subst ye
        have h20 := lk_fr h15 f20 (fun j _ _ => by omega) (by omega)
        have v20 := lk_fr v15 f20 (fun j _ _ => by omega) (by omega)
        have pa20 := pa_fr pa f20 (by omega) (fun j => by omega)
        have f020 : FC dsP S S20 := fc_tr f015 (fc_mono f20 (fun c j z => by first | exact ds_oi z | exact ds_wd z | exact ds_pl z | exact ds_eq z | exact ds_c43 z | exact ds_c44 z | exact ds_rep z | exact ds_wh z | exact ds_be z))
        have li := ldi (tI U (frI U c))
        have lo := ld_ok (l := tI U (frI U c)) hV0 (nW (tI U (frI U c)))
        refine ev_gg (li) ?_
        refine ev_ite (fun cl => ?_) (fun cl => ?_)
        · rw [if_pos cl, if_pos cl]
          have e : (if opN U c = 3 then none else if opN U c = 4 then none else (if ldT (tI U (wyI U c)) V (nW (tI U (wyI U c))) = -1 then none else if smJ 13 V (ldT (tI U (wyI U c)) V (nW (tI U (wyI U c)))).toNat U (vaI U c) then some V else none) : Option (List ND)) = none := by
            rcases h34 with z | z
            · rw [if_pos z]
            · rw [if_neg (by omega), if_pos z]
          rw [e]
          exact no S20 f020 v20
        · rw [if_neg cl, if_neg cl]
          obtain ⟨n7, e7, l7⟩ : ∃ n7 : Nat, ldT (tI U (frI U c)) V (nW (tI U (frI U c))) = (n7 : Int) ∧ n7 < V.length := by
            rcases lo with z | z
            · exact absurd z cl
            · exact ⟨_, (Int.toNat_of_nonneg (by omega)).symm, by omega⟩
          rw [e7, Int.toNat_natCast]
          refine ev_ite (fun z3 => ?_) (fun z3 => ?_)
          · have P := p218 h34 S20 n7 V l7 (fun z => absurd z z3) f020 h20 v20
            rw [if_neg z3] at P ⊢
            rw [if_pos (show opN U c = 4 by omega)]
            exact P
          · have z3' : opN U c = 3 := by omega
            rw [if_pos z3']
            refine ev_gc (q_canCut (d := d - 1) (K := 44) (F := 42) (V := V) (by omega) rfl (by decide) rfl (by decide) (by decide) hV.1 hV.2.2.2 v20 pa20 pf) (fun x S26 q26 => ?_)
            obtain ⟨x26, l26, f26⟩ := q26
            have h26 := lk_fr h20 f26 (fun j _ _ => by omega) (by omega)
            have v26 := lk_fr v20 f26 (fun j _ _ => by omega) (by omega)
            have f026 : FC dsP S S26 := fc_tr f020 (fc_mono f26 (fun c j z => by first | exact ds_oi z | exact ds_wd z | exact ds_pl z | exact ds_eq z | exact ds_c43 z | exact ds_c44 z | exact ds_rep z | exact ds_wh z | exact ds_be z))
            cases hC : lyC (tI U (frI U c)) V with
            | none =>
              rw [hC] at x26
              have x0 : x = 0 := x26
              subst x0
              refine ev_gg (by decide) ?_
              refine ev_ite (fun z => by omega) (fun _ => ?_)
              exact no S26 f026 v26
            | some V1 =>
              rw [hC] at x26
              have x1 : x = 1 := x26
              subst x1
              refine ev_gg (by decide) ?_
              refine ev_ite (fun _ => ?_) (fun z => by omega)
              have P := p218 h34 S26 n7 V1 l7 (fun _ => ⟨l26 V1 hC, lyC_doc hV hC⟩) f026 h26 v26
              rw [if_pos z3'] at P
              exact P
      · have z5' : opN U c = 5 := by omega
        have P := p91 (Or.inr z5')
        rw [if_neg z2] at P
        rw [if_neg (show ¬ opN U c = 3 by omega), if_neg (show ¬ opN U c = 4 by omega)]
        exact P
    · have z1' : opN U c = 1 := by omega
      rw [if_pos z1']
      refine ev_gc (pN S8 h8) (fun _ S9 q9 => ?_)
      obtain ⟨pa, f9⟩ := q9
      rw [wy] at pa
      have v9 := (lfr f9).2 v8
      have f09 : FC dsP S S9 := fc_tr f08 (fc_mono f9 (fun c j z => by first | exact ds_oi z | exact ds_wd z | exact ds_pl z | exact ds_eq z | exact ds_c43 z | exact ds_c44 z | exact ds_rep z | exact ds_wh z | exact ds_be z))
      refine ev_gc (ev_and (q_canCut (d := d - 1) (K := 43) (F := 42) (V := V) (by omega) rfl (by decide) rfl (by decide) (by decide) hV.1 hV.2.2.2 v9 pa pw) (q_canCut5 (d := d - 1) (K := 43) (F := 42) (V := V) (by omega) rfl (by decide) rfl (by decide) (by decide) hV.1 hV.2.2.2 v9 pa pw)) (fun x S10 q10 => ?_)
      obtain ⟨⟨x10, l10, f10⟩, b10⟩ := q10
      have v10 := lk_fr v9 f10 (fun j _ _ => by omega) (by omega)
      refine p251 S10 x _ ?_ (fun T hT => ⟨l10 T hT, lyC_doc hV hT, fun _ => b10 T hT⟩) (fc_tr f09 (fc_mono f10 (fun c j z => by first | exact ds_oi z | exact ds_wd z | exact ds_pl z | exact ds_eq z | exact ds_c43 z | exact ds_c44 z | exact ds_rep z | exact ds_wh z | exact ds_be z))) v10
      rw [x10]
      generalize lyC _ _ = o
      cases o <;> rfl
  · have z0' : opN U c = 0 := by omega
    rw [if_pos z0']
    obtain ⟨v, ev, vl⟩ := va (by omega) (by omega)
    refine ev_gc (pN S8 h8) (fun _ S9 q9 => ?_)
    obtain ⟨pa, f9⟩ := q9
    rw [wy] at pa
    have rl : rng (tI U (wyI U c)) := pa.2.2.2
    have h9 := (lfr f9).1 h8
    have v9 := (lfr f9).2 v8
    have f09 : FC dsP S S9 := fc_tr f08 (fc_mono f9 (fun c j z => by first | exact ds_oi z | exact ds_wd z | exact ds_pl z | exact ds_eq z | exact ds_c43 z | exact ds_c44 z | exact ds_rep z | exact ds_wh z | exact ds_be z))
    have sbU := sdc_sg U.length U (Nat.le_refl _) hU.1 v vl
    rw [ev, Int.toNat_natCast]
    refine ev_gc (ev_and (q_canPut (d := d - 1) (K := 43) (F := 42) (G := K) (J := v) (V := V) (U := U) (by omega) rfl (by decide) rfl (by decide) rfl (by omega) rfl (by decide) (by omega) hV.1 hV.2.2.2 hU.1 vl v9 h9 pa pw) (q_canPut5 (d := d - 1) (K := 43) (F := 42) (G := K) (J := v) (V := V) (U := U) (by omega) rfl (by decide) rfl (by decide) rfl (by omega) rfl (by decide) (by omega) hV.1 hV.2.2.2 hU.1 vl v9 h9 pa pw)) (fun x S10 q10 => ?_)
    obtain ⟨⟨x10, l10, f10⟩, _, _, _, b10⟩ := q10
    have v10 := lk_fr v9 f10 (fun j _ _ => by omega) (by omega)
    refine p251 S10 x _ ?_ (fun T hT => ⟨l10 T hT, lyP_doc hV rl sbU hT, fun _ => b10 T hT⟩) (fc_tr f09 (fc_mono f10 (fun c j z => by first | exact ds_oi z | exact ds_wd z | exact ds_pl z | exact ds_eq z | exact ds_c43 z | exact ds_c44 z | exact ds_rep z | exact ds_wh z | exact ds_be z))) v10
    rw [x10]
    generalize lyP _ _ _ = o
    cases o <;> rfl
end RLA
