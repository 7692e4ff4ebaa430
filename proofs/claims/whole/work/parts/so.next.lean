/-! THE REFERENCE asks: a ref, and what a WORD asks next -/
theorem names_sx : lw 7953758699401510912 = sx 53 ∧ inl 7953758699401510912 := by decide +kernel
theorem words_sx : ∀ w, w < 16 → (1 ≤ w → lw (gl_words.getD w 0).toInt = sx (30 + w)) ∧ inl (gl_words.getD w 0).toInt := by decide +kernel
theorem f3_ak {k c j : Nat} (z : c = 549 ∨ c = 550 ∨ (c = 500 ∧ j = 76) ∨ f1P k c j) : akP k c j := z.elim (fun y => Or.inr (Or.inr (Or.inr (Or.inr (Or.inr (Or.inr ⟨by omega, by omega⟩)))))) (fun z => z.elim (fun y => Or.inr (Or.inr (Or.inr (Or.inr (Or.inr (Or.inr ⟨by omega, by omega⟩)))))) (fun z => z.elim (fun y => i5_ak ⟨y.1, by omega⟩) f1_ak))
theorem vl_inI {V : List ND} (hV : TR V ∧ PZL V) (hl : V.length ≤ 100) {m : Int} {q : List Int} : inr (vLk V m q) := by
  rcases vLk_r hV.1.1 (pz_l hV.2) m q with z | z
  · rw [z]; decide
  · constructor <;> omega
section NXT
variable {S : GS} {d A B k : Nat} {Sc T : List ND} {refs cs : List (Int × Int)} {n : Int}
theorem vl_kM {g : Nat} {q : List Int} (hg : g < Sc.length) (h : nk Sc g ≠ 5) : vLk Sc (g : Int) q = -1 := by
  unfold vLk
  rw [if_pos (by omega), Int.toNat_natCast]
  unfold kidsM
  rw [if_neg h]
  rfl
theorem vl_neg {q : List Int} : vLk Sc (-1) q = -1 := by
  unfold vLk
  rw [if_neg (by omega)]
theorem q_asksRef {by_ said node : Nat} {p beg yes : Int} {R : Int → GS → Prop} (hd : 6 ≤ d) (hk : AbK A B Sc T) (hr : RefK refs) (h : AkS A B Sc T refs n cs (k + 1) S) (hf : FrQ k (by_ : Int) (node : Int) 15 p beg yes false S) (hs : said < Sc.length) (hn : node < T.length) (k3 : nk Sc said = 3) (hk5 : k + 1 < 500) (hl : cs.length < 219900) (nC : tgF Sc refs said node = -2 → ∀ S1, AkS A B Sc T refs n (cs ++ [((node : Int), 15)]) (k + 1) S1 → FrQ k (by_ : Int) (node : Int) 15 p beg yes false S1 → FC (akP k) S S1 → R 0 S1) (nO : tgF Sc refs said node = -1 → ∀ S1, AkS A B Sc T refs n cs (k + 1) S1 → FrQ k (by_ : Int) (node : Int) 15 p beg yes false S1 → FC (akP k) S S1 → R 0 S1) (nA : ∀ t : Nat, tgF Sc refs said node = (t : Int) → refs.length < 13 → t < Sc.length → ∀ S1, AkS A B Sc T (refs ++ [((t : Int), (node : Int))]) (n + 1) cs (k + 2) S1 → FrQ k (by_ : Int) (node : Int) 15 p beg yes true S1 → FrQ (k + 1) (t : Int) (node : Int) 1 0 (cs.length : Int) 0 false S1 → FC (akP k) S S1 → R 1 S1) : Ev (fun m => f_X12_asksRef m d 0 S [(k : Int), (said : Int), (node : Int)]) R := by
  obtain ⟨⟨⟨kA, kA4⟩, ⟨kB, kB4⟩⟩, ⟨sS, dS⟩, sT, dT⟩ := id hk
  have lS := h.1.2.1.2.1
  have lT := h.1.2.2.2.1
  have l1 := sS.1.1.2.1
  have et : sgN (Sc.getD said nd0) = tI Sc (said : Int) := by
    have k3' : (Sc.getD said nd0).1 = 3 := k3
    rw [sgN_t (by omega), tI_nat hs]
    rfl
  have lp : ∀ (v : Int) (S1 : GS), v = vLk Sc (vLk Sc 0 (sx 53)) (tI Sc (said : Int)) → AkS A B Sc T refs n cs (k + 1) S1 → FrQ k (by_ : Int) (node : Int) 15 p beg yes false S1 → FC wdP S S1 → ∀ (u i : Nat), i + u = refs.length → (v ≠ -1 → ∀ j, j < i → prA refs j ≠ (v, (node : Int))) → Ev (fun m => f_X12_asksRef m d 79 S1 [(k : Int), (node : Int), v, (i : Int)]) R := by
    intro v S1 hv h1 f1 ff u
    have vi : inr v := by rw [hv]; exact vl_inI sS.1 lS
    have r76 := h1.2.1.1
    have tg : tgF Sc refs said node = if v = -1 then -2 else if (v, (node : Int)) ∈ refs then -1 else if 13 ≤ refs.length then -2 else v := by rw [hv]; rfl
    have ffa : FC (akP k) S S1 := fc_mono ff (fun c j z => wd_akP z)
    have cpl : tgF Sc refs said node = -2 → Ev (fun m => gc (f_X12_complains m (d - 1) 0 S1 [(node : Int), 15]) fun x9 S_10 => some (0, S_10)) R := by
      intro z
      refine ev_gc (q_complains (d := d - 1) (a := (node : Int)) (w := 15) h1.2.2.1 (by omega) ⟨⟨by omega, by omega⟩, by omega, by omega⟩) (fun _ S2 q2 => ?_)
      obtain ⟨c2, f2⟩ := q2
      exact ev_ret (nC z S2 ⟨ab_fr hk h1.1 f2 (fun c j z => cs_ck z), ref_fr h1.2.1 f2 (by omega) (fun j => by omega) (fun j => by omega), c2, (fc_i f2 (by omega)).trans h1.2.2.2.1, (fc_i f2 (by omega)).trans h1.2.2.2.2⟩ (frq_fr f1 f2 (fun c _ _ => by omega)) (fc_tr ffa (fc_mono f2 (fun c j z => cs_ak z))))
    induction u with
    | zero =>
      intro i hiu hno
      have ei : i = refs.length := by omega
      subst ei
      have nin : v ≠ -1 → (v, (node : Int)) ∉ refs := fun z y => by
        obtain ⟨j, hj, e⟩ := List.getElem_of_mem y
        refine hno z j hj ?_
        show refs.getD j (0, 0) = _
        rw [List.getD_eq_getElem?_getD, List.getElem?_eq_getElem hj]
        exact e
      refine ev_up (fun n => e_X12_asksRef_79) ?_
      unfold b_X12_asksRef_79
      refine ev_gv ?_
      rw [r76]
      refine ev_gg (by first | omega | (constructor <;> omega)) ?_
      refine ev_gg (by first | omega | (constructor <;> omega)) ?_
      refine ev_ite (fun _ => ?_) (fun z => by omega)
      refine ev_gg (vi) ?_
      refine ev_ite (fun z => ?_) (fun z => ?_)
      · refine ev_gg (by first | omega | (constructor <;> omega)) ?_
        exact cpl (by rw [tg, if_pos z])
      · rw [if_neg z, if_neg (nin z)] at tg
        have vn : 0 ≤ v ∧ v < (Sc.length : Int) := by
          rcases vLk_r sS.1.1.1 (pz_l sS.1.2) (vLk Sc 0 (sx 53)) (tI Sc (said : Int)) with y | y
          · rw [← hv] at y; exact absurd y z
          · rw [← hv] at y; exact y
        refine ev_gv ?_
        refine ev_gg (by first | omega | (constructor <;> omega)) ?_
        refine ev_ite (fun y => ?_) (fun y => ?_)
        · have lr := hr.1
          rw [if_neg (by omega)] at tg
          obtain ⟨t, rfl⟩ : ∃ t : Nat, v = (t : Int) := ⟨v.toNat, by omega⟩
          refine ev_gv ?_
          refine ev_gg (by first | omega | (constructor <;> omega)) ?_
          refine ev_gv ?_
          refine ev_gv ?_
          rw [gI_c (show (500 : Nat) ≠ 549 by decide), r76]
          refine ev_gg (by first | omega | (constructor <;> omega)) ?_
          refine ev_gv ?_
          refine ev_gv ?_
          rw [gI_c (show (500 : Nat) ≠ 550 by decide), gI_c (show (500 : Nat) ≠ 549 by decide), r76]
          refine ev_gv ?_
          refine ev_gv ?_
          refine ev_gg (by first | omega | (constructor <;> omega)) ?_
          refine ev_gv ?_
          refine ev_gg (by first | omega | (constructor <;> omega)) ?_
          rw [Int.toNat_natCast, Int.toNat_natCast]
          have f3 : FC (fun c j => c = 549 ∨ c = 550 ∨ (c = 500 ∧ j = 76) ∨ f1P k c j) S1 (gB (gI (gI (gI S1 549 refs.length (t : Int)) 550 refs.length (node : Int)) 500 76 ((refs.length : Int) + 1)) 548 k (decide ((1 : Int) = 1))) := fc_tr (fc_gI (Or.inl rfl)) (fc_tr (fc_gI (Or.inr (Or.inl rfl))) (fc_tr (fc_gI (Or.inr (Or.inr (Or.inl ⟨rfl, rfl⟩)))) (fc_gB (Or.inr (Or.inr (Or.inr ⟨by decide, by decide, rfl⟩))))))
          have rq : RefQ (refs ++ [((t : Int), (node : Int))]) (gB (gI (gI (gI S1 549 refs.length (t : Int)) 550 refs.length (node : Int)) 500 76 ((refs.length : Int) + 1)) 548 k (decide ((1 : Int) = 1))) := by
            refine ⟨?_, fun i hi => ?_⟩
            · rw [gB_i, gI_a, List.length_append, List.length_singleton]
              omega
            · rw [List.length_append, List.length_singleton] at hi
              rw [gB_i, gI_c (show (549 : Nat) ≠ 500 by decide), gI_c (show (549 : Nat) ≠ 550 by decide), gI_c (show (550 : Nat) ≠ 500 by decide), prA_app hi]
              by_cases c : i < refs.length
              · rw [if_pos c, gI_k (by omega), gI_k (by omega), gI_c (show (550 : Nat) ≠ 549 by decide)]
                exact h1.2.1.2 i c
              · have ei : i = refs.length := by omega
                subst ei
                rw [if_neg c]
                exact ⟨gI_a, gI_a⟩
          have fq : FrQ k (by_ : Int) (node : Int) 15 p beg yes true (gB (gI (gI (gI S1 549 refs.length (t : Int)) 550 refs.length (node : Int)) 500 76 ((refs.length : Int) + 1)) 548 k (decide ((1 : Int) = 1))) := by
            obtain ⟨⟨⟨h1, h2⟩, h3, h4⟩, ⟨h5, h6⟩, h7⟩ := f1
            refine ⟨⟨⟨?_, ?_⟩, ?_, ?_⟩, ⟨?_, ?_⟩, ?_⟩
            · rw [gB_i, gI_c (by decide), gI_c (by decide), gI_c (by decide)]; exact h1
            · rw [gB_i, gI_c (by decide), gI_c (by decide), gI_c (by decide)]; exact h2
            · rw [gB_i, gI_c (by decide), gI_c (by decide), gI_c (by decide)]; exact h3
            · rw [gB_i, gI_c (by decide), gI_c (by decide), gI_c (by decide)]; exact h4
            · rw [gB_i, gI_c (by decide), gI_c (by decide), gI_c (by decide)]; exact h5
            · rw [gB_i, gI_c (by decide), gI_c (by decide), gI_c (by decide)]; exact h6
            · rw [gB_a]; rfl
          have aq : AkS A B Sc T (refs ++ [((t : Int), (node : Int))]) n cs (k + 1) (gB (gI (gI (gI S1 549 refs.length (t : Int)) 550 refs.length (node : Int)) 500 76 ((refs.length : Int) + 1)) 548 k (decide ((1 : Int) = 1))) := ⟨ab_fr hk h1.1 f3 (fun c j z => ak_ck (f3_ak z)), rq, cs_fr h1.2.2.1 f3 (by omega) (fun j => by omega), (fc_i f3 (by omega)).trans h1.2.2.2.1, (fc_i f3 (by omega)).trans h1.2.2.2.2⟩
          generalize gB (gI (gI (gI S1 549 refs.length (t : Int)) 550 refs.length (node : Int)) 500 76 ((refs.length : Int) + 1)) 548 k (decide ((1 : Int) = 1)) = S3 at f3 fq aq ⊢
          refine ev_gc (q_asksOf (d := d - 1) (a := (t : Int)) (b := (node : Int)) hk aq (by omega)) (fun _ S4 q4 => ?_)
          obtain ⟨a4, fr4, f4⟩ := q4
          exact ev_ret (nA t tg (by omega) (by omega) S4 a4 (frq_fr fq f4 (fun c _ _ => by omega)) fr4 (fc_tr ffa (fc_tr (fc_mono f3 (fun c j z => f3_ak z)) (fc_mono f4 (fun c j z => ao2_ak z)))))
        · refine ev_gg (by first | omega | (constructor <;> omega)) ?_
          exact cpl (by rw [tg, if_pos (by omega)])
    | succ u ih =>
      intro i hiu hno
      have il : i < refs.length := by omega
      have lr := hr.1
      have e1 : (i : Int) + 1 = ((i + 1 : Nat) : Int) := by omega
      have g := h1.2.1.2 i il
      have gm : prA refs i ∈ refs := by
        show refs.getD i (0, 0) ∈ refs
        rw [List.getD_eq_getElem?_getD, List.getElem?_eq_getElem il]
        exact List.getElem_mem il
      have gr := hr.2 _ gm
      refine ev_up (fun n => e_X12_asksRef_79) ?_
      unfold b_X12_asksRef_79
      refine ev_gv ?_
      rw [r76]
      refine ev_gg (by first | omega | (constructor <;> omega)) ?_
      refine ev_gg (by first | omega | (constructor <;> omega)) ?_
      refine ev_ite (fun z => by omega) (fun _ => ?_)
      refine ev_gg (vi) ?_
      refine ev_ite (fun z => ?_) (fun z => ?_)
      · refine ev_gv ?_
        rw [e1]
        exact ih (i + 1) (by omega) (fun y => absurd z y)
      · refine ev_gg (by first | omega | (constructor <;> omega)) ?_
        refine ev_gv ?_
        rw [Int.toNat_natCast, g.1]
        refine ev_gg (by first | omega | (constructor <;> omega)) ?_
        refine ev_ite (fun y => ?_) (fun y => ?_)
        · refine ev_gv ?_
          rw [e1]
          refine ih (i + 1) (by omega) (fun _ j hj w => ?_)
          by_cases ej : j = i
          · rw [ej] at w
            rw [w] at y
            exact y rfl
          · exact hno z j (by omega) w
        · refine ev_gv ?_
          rw [g.2]
          refine ev_gg (by first | omega | (constructor <;> omega)) ?_
          refine ev_gg (by first | omega | (constructor <;> omega)) ?_
          refine ev_ite (fun y2 => ?_) (fun y2 => ?_)
          · refine ev_gv ?_
            rw [e1]
            refine ih (i + 1) (by omega) (fun _ j hj w => ?_)
            by_cases ej : j = i
            · rw [ej] at w
              rw [w] at y2
              exact y2 rfl
            · exact hno z j (by omega) w
          · have e : prA refs i = (v, (node : Int)) := Prod.ext (by show (prA refs i).1 = v; omega) (by show (prA refs i).2 = (node : Int); omega)
            rw [e] at gm
            exact ev_ret (nO (by rw [tg, if_neg z, if_pos gm]) S1 h1 f1 ffa)
  have p29 : ∀ (v0 : Int) (S1 : GS), v0 = vLk Sc 0 (sx 53) → AkS A B Sc T refs n cs (k + 1) S1 → FrQ k (by_ : Int) (node : Int) 15 p beg yes false S1 → FC wdP S S1 → Ev (fun m => f_X12_asksRef m d 29 S1 [(k : Int), (said : Int), (node : Int), v0]) R := by
    intro v0 S1 hv0 h1 f1 ff
    have vi : inr v0 := by rw [hv0]; exact vl_inI sS.1 lS
    refine ev_up (fun n => e_X12_asksRef_29) ?_
    unfold b_X12_asksRef_29
    refine ev_gv ?_
    rw [h1.1.1.1]
    refine ev_gg (by first | omega | (constructor <;> omega)) ?_
    refine ev_gc (q_wordOfText (d := d - 1) (K := A) (I := said) (V := Sc) (by omega) rfl kA rfl h1.1.2.1 hs) (fun _ S2 q2 => ?_)
    obtain ⟨wd2, f2⟩ := q2
    rw [et] at wd2
    have h2 := ak_fr hk h1 f2 (fun c j z => Or.inl z)
    have fq2 := frq_fr f1 f2 (fun c _ _ => by omega)
    have ff2 := fc_tr ff f2
    refine ev_gg (vi) ?_
    refine ev_ite (fun z => ?_) (fun z => ?_)
    · refine lp (-1) S2 ?_ h2 fq2 ff2 refs.length 0 (by omega) (fun y => absurd rfl y)
      rw [← hv0, z, vl_neg]
    · have vn : 0 ≤ v0 ∧ v0 < (Sc.length : Int) := by
        rcases vLk_r sS.1.1.1 (pz_l sS.1.2) 0 (sx 53) with y | y
        · rw [← hv0] at y; exact absurd y z
        · rw [← hv0] at y; exact y
      obtain ⟨t, rfl⟩ : ∃ t : Nat, v0 = (t : Int) := ⟨v0.toNat, by omega⟩
      have nrt := h2.1.2.1.2.2.2 _ (nd_mem (show t < Sc.length by omega))
      have nrt1 : 0 ≤ nk Sc t ∧ nk Sc t ≤ 5 := ⟨nrt.1, nrt.2.1⟩
      refine ev_gv ?_
      rw [h2.1.1.1]
      refine ev_gcr (q_kindL (d := d - 1) (K := A) (I := t) (V := Sc) (by omega) rfl kA rfl h2.1.2.1 (by omega)) ?_
      refine ev_gg (by first | omega | (constructor <;> omega)) ?_
      refine ev_ite (fun y => ?_) (fun y => ?_)
      · refine ev_gv ?_
        rw [h2.1.1.1]
        refine ev_gcr (q_childByWord (d := d - 1) (K := A) (G := t) (V := Sc) (by omega) rfl kA rfl h2.1.2.1 sS.1.1.1 sS.1.2 (by omega) wd2) ?_
        refine lp _ S2 ?_ h2 fq2 ff2 refs.length 0 (by omega) (fun _ j hj => by omega)
        rw [← hv0, vLk_c (by omega) y]
      · refine lp (-1) S2 ?_ h2 fq2 ff2 refs.length 0 (by omega) (fun y => absurd rfl y)
        rw [← hv0, vl_kM (by omega) y]
  have nr0 := h.1.2.1.2.2.2 _ (nd_mem (show 0 < Sc.length by omega))
  have nr01 : 0 ≤ nk Sc 0 ∧ nk Sc 0 ≤ 5 := ⟨nr0.1, nr0.2.1⟩
  refine ev_up (fun n => e_X12_asksRef_0) ?_
  unfold b_X12_asksRef_0
  refine ev_gv ?_
  rw [h.1.1.1]
  refine ev_gg (by first | omega | (constructor <;> omega)) ?_
  refine ev_gcr (q_kindL (d := d - 1) (k := (A : Int)) (i := 0) (K := A) (I := 0) (V := Sc) (by omega) rfl kA rfl h.1.2.1 (by omega)) ?_
  refine ev_gg (by first | omega | (constructor <;> omega)) ?_
  refine ev_ite (fun z => ?_) (fun z => ?_)
  · refine p29 (-1) S ?_ h hf fc_rf
    exact (vl_kM (g := 0) (by omega) z).symm
  · have z5 : nk Sc 0 = 5 := by omega
    refine ev_gv ?_
    rw [h.1.1.1]
    refine ev_gc (q_childNamed (d := d - 1) (k := (A : Int)) (g := 0) (K := A) (G := 0) (V := Sc) (by omega) names_sx.2 rfl kA rfl h.1.2.1 sS.1.1.1 sS.1.2 (by omega)) (fun x S2 q2 => ?_)
    obtain ⟨rfl, _, f2⟩ := q2
    refine p29 _ S2 ?_ (ak_fr hk h f2 (fun c j z => Or.inl z)) (frq_fr hf f2 (fun c _ _ => by omega)) f2
    rw [names_sx.1]
    exact (vLk_c (a := 0) (by omega) z5 _).symm
theorem lq_skip {g : Int → Int → RK → Option RK} {cut : Bool} {L : List (Int × Int)} {p : Nat} {nd a : Int} {K : RK} (hp : p < L.length) (h : L.getD p (0, 0) = (-1, nd)) : lqR g cut (L.drop p) a K = lqR g cut (L.drop (p + 1)) a K := by
  have e := dr_1 (z := (0, 0)) hp
  rw [e, h]
  have eR : lqR g cut ((-1, nd) :: L.drop (p + 1)) a K = if (-1 : Int) = -1 then lqR g cut (L.drop (p + 1)) a K else match g (-1) nd K with
    | none => none
    | some K1 => if cut = true then lqR g cut (L.drop (p + 1)) (a + if K1.2.length = K.2.length then 1 else 0) (K1.1, K.2) else lqR g cut (L.drop (p + 1)) a K1 := rfl
  rw [eR, if_pos rfl]
theorem q_asksNext {by_ said node w p : Nat} {beg yes : Int} {R : Int → GS → Prop} (hd : 6 ≤ d) (hk : AbK A B Sc T) (h : AkS A B Sc T refs n cs (k + 1) S) (hf : FrQ k (by_ : Int) (node : Int) (w : Int) (p : Int) beg yes false S) (hb : by_ < Sc.length) (h5 : nk Sc by_ = 5) (hs : said < Sc.length) (hn : node < T.length) (hw : 7 ≤ w ∧ w ≤ 13 ∧ w ≠ 10) (k7 : w = 7 → nk Sc said = 5) (k8 : w = 8 → ∀ t : Nat, vLk Sc (by_ : Int) (sx 37) = (t : Int) → nk Sc t = 5) (hk5 : k + 1 < 500) (hp : p ≤ (qsL Sc T refs w by_ said node).length) (h0 : ∀ (p1 : Nat) (S1 : GS), (∀ (g : Int → Int → RK → Option RK) (cut : Bool) (a : Int) (K : RK), lqR g cut ((qsL Sc T refs w by_ said node).drop p) a K = some (a, K)) → AkS A B Sc T refs n cs (k + 1) S1 → FrQ k (by_ : Int) (node : Int) (w : Int) (p1 : Int) beg yes false S1 → FC (akP k) S S1 → R 0 S1) (h1 : ∀ (p1 sub nd : Nat) (S1 : GS), p1 < (qsL Sc T refs w by_ said node).length → (qsL Sc T refs w by_ said node).getD p1 (0, 0) = ((sub : Int), (nd : Int)) → sub < Sc.length → nd < T.length → p ≤ p1 → (∀ (g : Int → Int → RK → Option RK) (cut : Bool) (a : Int) (K : RK), lqR g cut ((qsL Sc T refs w by_ said node).drop p) a K = lqR g cut (((sub : Int), (nd : Int)) :: (qsL Sc T refs w by_ said node).drop (p1 + 1)) a K) → AkS A B Sc T refs (n + 1) cs (k + 2) S1 → FrQ k (by_ : Int) (node : Int) (w : Int) ((p1 + 1 : Nat) : Int) beg yes true S1 → S1.1 546 k = (cs.length : Int) → FrQ (k + 1) (sub : Int) (nd : Int) 1 0 (cs.length : Int) 0 false S1 → FC (akP k) S S1 → R 1 S1) : Ev (fun m => f_X12_asksNext m d 0 S [(k : Int), (w : Int), (said : Int), (node : Int)]) R := by
  obtain ⟨⟨⟨kA, kA4⟩, ⟨kB, kB4⟩⟩, ⟨sS, dS⟩, sT, dT⟩ := id hk
  have lS := h.1.2.1.2.1
  have lT := h.1.2.2.2.1
  have klS := kids_100 sS.1.1.1 (pz_l sS.1.2) lS hs
  have klT := kids_100 sT.1.1.1 (pz_l sT.1.2) lT hn
  have wS := sS.1.1.1
  have zS := pz_l sS.1.2
  have wT := sT.1.1.1
  have zT := pz_l sT.1.2
  -- how many, and what at a place
  have eL : (qsL Sc T refs w by_ said node).length = (if w < 11 then (if nk T node = (if w = 9 then 4 else 5) then (kids T node).length else 0) else (kids Sc said).length) := by
    unfold qsL
    by_cases c7 : w = 7
    · rw [if_pos c7, if_pos (show w < 11 by omega), if_neg (show ¬ w = 9 by omega), List.length_map]
      unfold kidsM
      split <;> rfl
    rw [if_neg c7]
    by_cases c8 : w = 8
    · rw [if_pos c8, if_pos (show w < 11 by omega), if_neg (show ¬ w = 9 by omega), List.length_map]
      unfold kidsM
      split <;> rfl
    rw [if_neg c8]
    by_cases c9 : w = 9
    · rw [if_pos c9, if_pos (show w < 11 by omega), if_pos c9, List.length_map]
      split <;> rfl
    rw [if_neg c9, if_neg (by omega), if_neg (by omega), if_neg (show ¬ w < 11 by omega), List.length_map]
  have l100 : (qsL Sc T refs w by_ said node).length ≤ 100 := by
    rw [eL]
    repeat' split
    all_goals omega
  have gm : ∀ (L : List Nat) (f : Nat → Int × Int) (p : Nat), p < L.length → (L.map f).getD p (0, 0) = f (L.getD p 0) := by
    intro L f p hp
    rw [List.getD_eq_getElem?_getD, List.getElem?_map, List.getElem?_eq_getElem hp, List.getD_eq_getElem?_getD, List.getElem?_eq_getElem hp]
    rfl
  -- behind the place
  have fin : ∀ (p1 sub nd : Nat) (S1 : GS), p1 < (qsL Sc T refs w by_ said node).length → (qsL Sc T refs w by_ said node).getD p1 (0, 0) = ((sub : Int), (nd : Int)) → sub < Sc.length → nd < T.length → p ≤ p1 → (∀ (g : Int → Int → RK → Option RK) (cut : Bool) (a : Int) (K : RK), lqR g cut ((qsL Sc T refs w by_ said node).drop p) a K = lqR g cut ((qsL Sc T refs w by_ said node).drop p1) a K) → AkS A B Sc T refs n cs (k + 1) S1 → FrQ k (by_ : Int) (node : Int) (w : Int) ((p1 + 1 : Nat) : Int) beg yes false S1 → FC (akP k) S S1 → Ev (fun m => gv (S1.1 500 79) fun x10 => gv (gI S1 546 ((k : Int)).toNat x10) fun S_12 => gv (gB S_12 548 ((k : Int)).toNat (decide ((1 : Int) = 1))) fun S_14 => gg (1 ≤ d) (gc (f_X12_asksOf m (d - 1) 0 S_14 [(sub : Int), (nd : Int)]) fun x17 S_18 => some (1, S_18))) R := by
    intro p1 sub nd S1 hp1 hq hsub hnd hpp hl a1 fq ff
    refine ev_gv ?_
    rw [a1.2.2.1.1]
    refine ev_gv ?_
    refine ev_gv ?_
    refine ev_gg (by first | omega | (constructor <;> omega)) ?_
    rw [Int.toNat_natCast]
    have f2 : FC (f1P k) S1 (gB (gI S1 546 k (cs.length : Int)) 548 k (decide ((1 : Int) = 1))) := fc_tr (fc_gI ⟨by decide, by decide, rfl⟩) (fc_gB ⟨by decide, by decide, rfl⟩)
    have a2 := ak_f1 hk a1 f2
    have fq2 : FrQ k (by_ : Int) (node : Int) (w : Int) ((p1 + 1 : Nat) : Int) beg yes true (gB (gI S1 546 k (cs.length : Int)) 548 k (decide ((1 : Int) = 1))) := by
      obtain ⟨⟨⟨h1, h2⟩, h3, h4⟩, ⟨h5, h6⟩, h7⟩ := fq
      refine ⟨⟨⟨?_, ?_⟩, ?_, ?_⟩, ⟨?_, ?_⟩, ?_⟩
      · rw [gB_i, gI_c (by decide)]; exact h1
      · rw [gB_i, gI_c (by decide)]; exact h2
      · rw [gB_i, gI_c (by decide)]; exact h3
      · rw [gB_i, gI_c (by decide)]; exact h4
      · rw [gB_i, gI_c (by decide)]; exact h5
      · rw [gB_i, gI_c (by decide)]; exact h6
      · rw [gB_a]; rfl
    have m2 : (gB (gI S1 546 k (cs.length : Int)) 548 k (decide ((1 : Int) = 1))).1 546 k = (cs.length : Int) := by rw [gB_i]; exact gI_a
    generalize gB (gI S1 546 k (cs.length : Int)) 548 k (decide ((1 : Int) = 1)) = S2 at f2 a2 fq2 m2 ⊢
    refine ev_gc (q_asksOf (d := d - 1) (a := (sub : Int)) (b := (nd : Int)) hk a2 (by omega)) (fun _ S4 q4 => ?_)
    obtain ⟨a4, fr4, f4⟩ := q4
    refine ev_ret (h1 p1 sub nd S4 hp1 hq hsub hnd hpp (fun g cut a K => ?_) a4 (frq_fr fq2 f4 (fun c _ _ => by omega)) ((fc_i f4 (by omega)).trans m2) fr4 (fc_tr ff (fc_tr (fc_mono f2 (fun c j z => f1_ak z)) (fc_mono f4 (fun c j z => ao2_ak z)))))
    rw [hl, dr_1 (z := (0, 0)) hp1, hq]
  have lp : ∀ (u p1 : Nat) (S1 : GS), p1 + u = (qsL Sc T refs w by_ said node).length → p ≤ p1 → (∀ (g : Int → Int → RK → Option RK) (cut : Bool) (a : Int) (K : RK), lqR g cut ((qsL Sc T refs w by_ said node).drop p) a K = lqR g cut ((qsL Sc T refs w by_ said node).drop p1) a K) → AkS A B Sc T refs n cs (k + 1) S1 → FrQ k (by_ : Int) (node : Int) (w : Int) (p1 : Int) beg yes false S1 → FC (akP k) S S1 → Ev (fun m => f_X12_asksNext m d 76 S1 [(k : Int), (w : Int), (said : Int), (node : Int), if w < 11 then 1 else 0, ((qsL Sc T refs w by_ said node).length : Int)]) R := by
    intro u
    induction u with
    | zero =>
      intro p1 S1 hpu hpp hl a1 fq ff
      refine ev_up (fun n => e_X12_asksNext_76) ?_
      unfold b_X12_asksNext_76
      refine ev_gg (by first | omega | (constructor <;> omega)) ?_
      refine ev_gv ?_
      rw [Int.toNat_natCast, fq.1.2.2]
      refine ev_gg (by first | omega | (constructor <;> omega)) ?_
      refine ev_gg (by first | omega | (constructor <;> omega)) ?_
      refine ev_ite (fun _ => ?_) (fun z => by omega)
      refine ev_ret (h0 p1 S1 (fun g cut a K => ?_) a1 fq ff)
      rw [hl, List.drop_eq_nil_of_le (by omega)]
      rfl
    | succ u ih =>
      intro p1 S1 hpu hpp hl a1 fq ff
      have pl : p1 < (qsL Sc T refs w by_ said node).length := by omega
      have e1 : (p1 : Int) + 1 = ((p1 + 1 : Nat) : Int) := by omega
      -- from the SCHEMA on
      have p231 : ∀ (s v : Int) (nd : Nat) (S2 : GS), (qsL Sc T refs w by_ said node).getD p1 (0, 0) = (v, (nd : Int)) → nOK Sc v → nd < T.length → FC wdP S1 S2 → Ev (fun m => f_X12_asksNext m d 231 S2 [(k : Int), (w : Int), (said : Int), (node : Int), if w < 11 then 1 else 0, ((qsL Sc T refs w by_ said node).length : Int), (nd : Int), v]) R := by
        intro s v nd S2 hq hv hnd f2
        have a2 := ak_fr hk a1 f2 (fun c j z => Or.inl z)
        have fq2 := frq_fr fq f2 (fun c _ _ => by omega)
        have f02 : FC (akP k) S S2 := fc_tr ff (fc_mono f2 (fun c j z => wd_akP z))
        have f3 : FC (f1P k) S2 (gI S2 544 k ((p1 + 1 : Nat) : Int)) := fc_gI ⟨by decide, by decide, rfl⟩
        have a3 := ak_f1 hk a2 f3
        have fq3 : FrQ k (by_ : Int) (node : Int) (w : Int) ((p1 + 1 : Nat) : Int) beg yes false (gI S2 544 k ((p1 + 1 : Nat) : Int)) := by
          obtain ⟨⟨⟨h1, h2⟩, h3, h4⟩, ⟨h5, h6⟩, h7⟩ := fq2
          exact ⟨⟨⟨by rw [gI_c (by decide)]; exact h1, by rw [gI_c (by decide)]; exact h2⟩, by rw [gI_c (by decide)]; exact h3, gI_a⟩, ⟨by rw [gI_c (by decide)]; exact h5, by rw [gI_c (by decide)]; exact h6⟩, h7⟩
        have f03 : FC (akP k) S (gI S2 544 k ((p1 + 1 : Nat) : Int)) := fc_tr f02 (fc_mono f3 (fun c j z => f1_ak z))
        refine ev_up (fun n => e_X12_asksNext_231) ?_
        unfold b_X12_asksNext_231
        refine ev_gg (by first | omega | (constructor <;> omega)) ?_
        refine ev_gv ?_
        rw [Int.toNat_natCast, fq2.1.2.2]
        refine ev_gv ?_
        rw [e1]
        refine ev_gv ?_
        refine ev_gg ((by rcases hv with z | z <;> constructor <;> omega)) ?_
        generalize gI S2 544 k ((p1 + 1 : Nat) : Int) = S3 at f3 a3 fq3 f03 ⊢
        refine ev_ite (fun z => ?_) (fun z => ?_)
        · rw [z] at hq
          refine ih (p1 + 1) S3 (by omega) (by omega) (fun g cut a K => ?_) a3 fq3 f03
          rw [hl, lq_skip pl hq]
        · have vn : 0 ≤ v ∧ v < (Sc.length : Int) := by
            rcases hv with y | y
            · exact absurd y z
            · exact y
          obtain ⟨t, rfl⟩ : ∃ t : Nat, v = (t : Int) := ⟨v.toNat, by omega⟩
          have := fin p1 t nd S3 pl hq (by omega) hnd hpp hl a3 fq3 f03
          rw [Int.toNat_natCast] at this
          exact this
      -- the VALUE, and its SCHEMA
      have p113 : ∀ (nd : Nat), nd < T.length → (∀ v : Int, w = 7 → v = vLk Sc (said : Int) (nq T nd) → (qsL Sc T refs w by_ said node).getD p1 (0, 0) = (v, (nd : Int))) → (∀ v : Int, w = 8 → v = (if vLk Sc (vLk Sc (by_ : Int) (sx 37)) (nq T nd) = -1 then (said : Int) else -1) → (qsL Sc T refs w by_ said node).getD p1 (0, 0) = (v, (nd : Int))) → (w = 9 → (qsL Sc T refs w by_ said node).getD p1 (0, 0) = ((said : Int), (nd : Int))) → (11 ≤ w → p1 < (kids Sc said).length ∧ (qsL Sc T refs w by_ said node).getD p1 (0, 0) = ((((kids Sc said).getD p1 0 : Nat) : Int), (nd : Int))) → Ev (fun m => f_X12_asksNext m d 113 S1 [(k : Int), (w : Int), (said : Int), (node : Int), if w < 11 then 1 else 0, ((qsL Sc T refs w by_ said node).length : Int), (nd : Int)]) R := by
        intro nd hnd q7 q8 q9 q11
        refine ev_up (fun n => e_X12_asksNext_113) ?_
        unfold b_X12_asksNext_113
        refine ev_gg (by first | omega | (constructor <;> omega)) ?_
        refine ev_ite (fun n7 => ?_) (fun y7 => ?_)
        · refine ev_ite (fun n8 => ?_) (fun y8 => ?_)
          · by_cases c : w < 11
            · have w9 : w = 9 := by omega
              simp only [if_pos c] at p231 ⊢
              refine ev_gg (by decide) ?_
              refine ev_ite (fun _ => ?_) (fun z => absurd (by decide) z)
              exact p231 0 _ nd S1 (q9 w9) (Or.inr ⟨by omega, by omega⟩) hnd fc_rf
            · obtain ⟨z1, z2⟩ := q11 (by omega)
              simp only [if_neg c] at p231 ⊢
              refine ev_gg (by decide) ?_
              refine ev_ite (fun z => absurd rfl z) (fun _ => ?_)
              refine ev_gv ?_
              rw [a1.1.1.1]
              refine ev_gg (by first | omega | (constructor <;> omega)) ?_
              refine ev_gv ?_
              rw [Int.toNat_natCast, fq.1.2.2]
              refine ev_gg (by first | omega | (constructor <;> omega)) ?_
              refine ev_gcr (q_kidAt (d := d - 1) (K := A) (G := said) (P := p1) (V := Sc) (by omega) rfl kA rfl rfl a1.1.2.1 sS.1 hs z1) ?_
              have ka := kid_at sS.1 hs z1
              exact p231 0 _ nd S1 z2 (Or.inr ⟨by omega, by omega⟩) hnd fc_rf
          · have w8 : w = 8 := by omega
            refine ev_gv ?_
            rw [a1.1.1.1]
            refine ev_gg (by first | omega | (constructor <;> omega)) ?_
            refine ev_gv ?_
            rw [Int.toNat_natCast, fq.1.1.1]
            refine ev_gg (by decide) ?_
            refine ev_gv ?_
            refine ev_gg (by first | omega | (constructor <;> omega)) ?_
            rw [show ((7 : Int)).toNat = 7 from rfl]
            refine ev_gc (q_childNamed (d := d - 1) (K := A) (G := by_) (V := Sc) (by omega) (words_sx 7 (by decide)).2 rfl kA rfl a1.1.2.1 wS sS.1.2 hb) (fun x S2 q2 => ?_)
            obtain ⟨rfl, _, f2⟩ := q2
            rw [(words_sx 7 (by decide)).1 (by decide), ← vLk_c hb h5]
            have a2 := ak_fr hk a1 f2 (fun c j z => Or.inl z)
            have vi : inr (vLk Sc (by_ : Int) (sx 37)) := vl_in sS.1 lS
            refine ev_gg (vi) ?_
            refine ev_ite (fun z => ?_) (fun z => ?_)
            · refine p231 0 _ nd S2 (q8 _ w8 ?_) (Or.inr ⟨by omega, by omega⟩) hnd f2
              rw [show vLk Sc (by_ : Int) (sx 37) = -1 from z, vl_neg, if_pos rfl]
            · obtain ⟨t, et, tl⟩ := vl_at (c := by_) (q := sx 37) sS.1 z
              have t5 := k8 w8 t et
              rw [show vLk Sc (by_ : Int) (sx (30 + 7)) = (t : Int) from et]
              refine ev_gv ?_
              rw [a2.1.1.1]
              refine ev_gv ?_
              rw [a2.1.1.2]
              refine ev_gcr (q_likeL (d := d - 1) (K := A) (G := t) (F := B) (J := nd) (V := Sc) (W := T) (by omega) rfl kA rfl rfl kB rfl a2.1.2.1 sS.1 tl a2.1.2.2 hnd) ?_
              rw [← vLk_c tl t5]
              have vi2 : inr (vLk Sc (t : Int) (nq T nd)) := vl_in sS.1 lS
              refine ev_gg (vi2) ?_
              refine ev_ite (fun y => ?_) (fun y => ?_)
              · refine p231 0 _ nd S2 (q8 _ w8 ?_) (Or.inr ⟨by omega, by omega⟩) hnd f2
                rw [et, if_pos y]
              · refine p231 0 _ nd S2 (q8 _ w8 ?_) (Or.inl rfl) hnd f2
                rw [et, if_neg y]
        · have w7 : w = 7 := by omega
          refine ev_gv ?_
          rw [a1.1.1.1]
          refine ev_gv ?_
          rw [a1.1.1.2]
          refine ev_gg (by first | omega | (constructor <;> omega)) ?_
          refine ev_gcr (q_likeL (d := d - 1) (K := A) (G := said) (F := B) (J := nd) (V := Sc) (W := T) (by omega) rfl kA rfl rfl kB rfl a1.1.2.1 sS.1 hs a1.1.2.2 hnd) ?_
          rw [← vLk_c hs (k7 w7)]
          exact p231 0 _ nd S1 (q7 _ w7 rfl) (vLk_r wS zS _ _) hnd fc_rf
      refine ev_up (fun n => e_X12_asksNext_76) ?_
      unfold b_X12_asksNext_76
      refine ev_gg (by first | omega | (constructor <;> omega)) ?_
      refine ev_gv ?_
      rw [Int.toNat_natCast, fq.1.2.2]
      refine ev_gg (by first | omega | (constructor <;> omega)) ?_
      refine ev_gg (by first | omega | (constructor <;> omega)) ?_
      refine ev_ite (fun z => by omega) (fun _ => ?_)
      by_cases c : w < 11
      · rw [eL, if_pos c] at pl
        have kt : nk T node = (if w = 9 then 4 else 5) := by
          by_cases z : nk T node = (if w = 9 then 4 else 5)
          · exact z
          · rw [if_neg z] at pl
            omega
        rw [if_pos kt] at pl
        have ka := kid_at sT.1 hn pl
        simp only [if_pos c] at p113 ⊢
        refine ev_gg (by decide) ?_
        refine ev_ite (fun z => absurd z (by decide)) (fun _ => ?_)
        refine ev_gv ?_
        rw [a1.1.1.2]
        refine ev_gv ?_
        refine ev_gg (by first | omega | (constructor <;> omega)) ?_
        refine ev_gcr (q_kidAt (d := d - 1) (K := B) (G := node) (P := p1) (V := T) (by omega) rfl kB rfl rfl a1.1.2.2 sT.1 hn pl) ?_
        refine p113 ((kids T node).getD p1 0) ka.1 (fun v w7 hv => ?_) (fun v w8 hv => ?_) (fun w9 => ?_) (fun z => by omega)
        · unfold qsL kidsM
          rw [if_neg (show ¬ w = 9 by omega)] at kt
          rw [if_pos w7, if_pos kt, gm _ _ _ pl, hv]
        · unfold qsL kidsM
          rw [if_neg (show ¬ w = 9 by omega)] at kt
          rw [if_neg (by omega), if_pos w8, if_pos kt, gm _ _ _ pl, hv]
        · unfold qsL
          rw [if_pos w9] at kt
          rw [if_neg (by omega), if_neg (by omega), if_pos w9, if_pos kt, gm _ _ _ pl]
      · rw [eL, if_neg c] at pl
        simp only [if_neg c] at p113 ⊢
        refine ev_gg (by decide) ?_
        refine ev_ite (fun _ => ?_) (fun z => absurd (by first | rfl | trivial) z)
        refine p113 node hn (fun v w7 hv => by omega) (fun v w8 hv => by omega) (fun w9 => by omega) (fun z => ⟨pl, ?_⟩)
        unfold qsL
        rw [if_neg (by omega), if_neg (by omega), if_neg (by omega), if_neg (by omega), if_neg (by omega), gm _ _ _ pl]
  have L76 := lp ((qsL Sc T refs w by_ said node).length - p) p S (by omega) (Nat.le_refl p) (fun g cut a K => rfl) h hf fc_rf
  have nrn := h.1.2.2.2.2.2 _ (nd_mem hn)
  have nrn1 : 0 ≤ nk T node ∧ nk T node ≤ 5 := ⟨nrn.1, nrn.2.1⟩
  have p56 : ∀ s0 : Int, w < 11 → s0 = (if w = 9 then 4 else 5) → Ev (fun m => f_X12_asksNext m d 56 S [(k : Int), (w : Int), (said : Int), (node : Int), 1, s0, nk T node]) R := by
    intro s0 c hs0
    rw [if_pos c, eL, if_pos c, ← hs0] at L76
    refine ev_up (fun n => e_X12_asksNext_56) ?_
    unfold b_X12_asksNext_56
    refine ev_gg (by first | omega | (constructor <;> omega)) ?_
    refine ev_gg ((by rw [hs0]; split <;> decide)) ?_
    refine ev_ite (fun z => ?_) (fun z => ?_)
    · rw [if_neg z] at L76
      exact L76
    · refine ev_gv ?_
      rw [h.1.1.2]
      refine ev_gg (by first | omega | (constructor <;> omega)) ?_
      refine ev_gcr (q_manyL (d := d - 1) (K := B) (I := node) (V := T) (by omega) rfl kB rfl h.1.2.2 hn) ?_
      rw [if_pos (show nk T node = s0 by omega)] at L76
      exact L76
  refine ev_up (fun n => e_X12_asksNext_0) ?_
  unfold b_X12_asksNext_0
  refine ev_gv ?_
  rw [h.1.1.2]
  refine ev_gg (by first | omega | (constructor <;> omega)) ?_
  refine ev_gcr (q_kindL (d := d - 1) (K := B) (I := node) (V := T) (by omega) rfl kB rfl h.1.2.2 hn) ?_
  refine ev_gg (by first | omega | (constructor <;> omega)) ?_
  refine ev_ite (fun z => ?_) (fun z => ?_)
  · have c : ¬ w < 11 := by omega
    rw [if_neg c, eL, if_neg c] at L76
    refine ev_up (fun n => e_X12_asksNext_23) ?_
    unfold b_X12_asksNext_23
    refine ev_gg (by decide) ?_
    refine ev_ite (fun y => absurd rfl y) (fun _ => ?_)
    refine ev_gv ?_
    rw [h.1.1.1]
    refine ev_gg (by first | omega | (constructor <;> omega)) ?_
    refine ev_gcr (q_manyL (d := d - 1) (K := A) (I := said) (V := Sc) (by omega) rfl kA rfl h.1.2.1 hs) ?_
    exact L76
  · refine ev_up (fun n => e_X12_asksNext_23) ?_
    unfold b_X12_asksNext_23
    refine ev_gg (by decide) ?_
    refine ev_ite (fun _ => ?_) (fun y => absurd (by decide) y)
    refine ev_gg (by first | omega | (constructor <;> omega)) ?_
    refine ev_ite (fun y => ?_) (fun y => ?_)
    · exact p56 5 (by omega) (by rw [if_neg (by omega)])
    · exact p56 4 (by omega) (by rw [if_pos (by omega)])
end NXT
