/-! the Editor of the class: PUT, whole -/
theorem nk_spl {V t : List ND} {o a : Nat} (h : o < a) (ho : o < V.length) : ((spl V o a 0 t).getD o nd0).1 = nk V o := by
  unfold spl adjS
  have la : o < (V.take a ++ t ++ V.drop (a + 0)).length := by simp; omega
  rw [adjP_at la]
  have e : (V.take a ++ t ++ V.drop (a + 0)).getD o nd0 = V.getD o nd0 := by
    rw [List.append_assoc, List.getD_eq_getElem?_getD, List.getElem?_append_left (by rw [List.length_take]; omega), List.getElem?_take, if_pos h, ← List.getD_eq_getElem?_getD]
  split
  · rw [e]; rfl
  · rw [e]; rfl
section PU2
variable {S S0 : GS} {a d : Nat} {l : List Int} {V : List ND}
theorem ed_aimedPath {z : Bool × Nat × Nat × Nat} (ha : gRo a) (hd : 4 ≤ d) (hr : RoS a l S) (hv : TV S 360 V) (h8 : S.1 482 8 = (z.2.1 : Int)) (hz : z.2.1 < V.length) (h9 : nk V z.2.1 = 4 → S.1 482 9 = (z.2.2.2 : Int) ∧ z.2.2.2 < 1000) (hl : l.length ≤ 390) (hn : 1 ≤ nW l) (hG : Good S) : Ev (fun n => f_X1_aimedPathTo n d 0 S [((a : Nat) : Int)]) (fun _ S1 => SX 454 S (apT l V z) S1) := by
  have g2 := rS_r ha
  have lV := tv_l hv
  have ei : isI V (z.2.1 : Int) 4 = if nk V z.2.1 = 4 then 1 else 0 := by
    unfold isI
    by_cases q : nk V z.2.1 = 4
    · rw [if_pos q, if_pos ⟨by omega, by rw [Int.toNat_natCast]; exact q⟩]
    · rw [if_neg q, if_neg (fun y => q (by have := y.2; rwa [Int.toNat_natCast] at this))]
  refine ev_up (fun n => e_X1_aimedPathTo_0) ?_
  unfold b_X1_aimedPathTo_0
  rw [h8]
  refine ev_gv ?_
  refine ev_gg (by omega) ?_
  refine ev_gcr (rd_as (t_is (d := d - 1) (i := (z.2.1 : Int)) (k := 4) gT360 hv (by constructor <;> omega) (by decide)) ei) ?_
  unfold apT
  by_cases c : nk V z.2.1 = 4
  · rw [if_pos c, if_pos c]
    refine ev_gg (by decide) ?_
    refine ev_ite (fun y => absurd y (by decide)) (fun _ => ?_)
    have h9' := h9 c
    rw [h9'.1]
    refine ev_gv ?_
    refine ev_gg ha ?_
    refine ev_gc (ro_textWithPlace (d := d - 1) (s := 454) (p := (z.2.2.2 : Int)) ha gSh454 (by omega) rfl (by omega) hr hG (by omega) hl hn) (fun _ S1 s1 => ?_)
    exact ev_ret s1
  · rw [if_neg c, if_neg c]
    refine ev_gg (by decide) ?_
    refine ev_ite (fun _ => ?_) (fun y => absurd rfl y)
    refine ev_gg ha ?_
    refine ev_gc (ro_textTo (d := d - 1) (s := 454) ha gSh454 (by omega) (by decide) (by omega) hr hG) (fun _ S1 s1 => ?_)
    exact ev_ret s1
/-- PUTTING in the end: what was aimed at is told by the state -/
theorem ed_90 {c2 j : Nat} {U : List ND} {z : Bool × Nat × Nat × Nat} (hd : 18 ≤ d) (h : TR V ∧ PZL V) (hz : aimS l V = some z) (hl : rng l) (hT : TO 360 (V, false) S) (h8 : S.1 482 8 = (z.2.1 : Int)) (h10 : S.1 482 10 = (z.2.2.1 : Int)) (h11 : S.2.1 482 11 = z.1) (hw : z.1 = false → SV S 452 (wdA l (nW l - 1))) (hc2 : gT c2) (hne : c2 ≠ 360) (hu : TO c2 (U, false) S) (hU : WF U) (hj : j < U.length) (hG : Good S) : Ev (fun n => f_X1_putIn n d 90 S [((c2 : Nat) : Int), (j : Int)]) (fun x S1 => (if pOK (putT l V z (sg U j)) then x = 1 ∧ TO 360 (putT l V z (sg U j), false) S1 else x = 0) ∧ Fr (trM 360) S S1 ∧ Good S1) := by
  have pz := pz_l h.2
  have lV := tv_l hT.1
  have lV' : V.length ≤ 100 := lV
  have hzU : PZL U := nr_pzl hu.1.2.2.2
  have zj : 1 ≤ nz U j := pz_l hzU j
  have wj := hU.1 j hj
  have lU := tv_l hu.1
  have lU' : U.length ≤ 100 := lU
  have ok := aimS_ok h hz
  have tt := tr_sg hU hzU hj
  have ptr := putT_tr h hz tt
  have lsg := sg_len hU hj
  refine ev_up (fun n => e_X1_putIn_90) ?_
  unfold b_X1_putIn_90
  rw [h11]
  cases hb : z.1 with
  | true =>
    have hi := ok.2.1 hb
    have eT : putT l V z (sg U j) = rpl V z.2.2.1 U j := by
      rw [rpl_upd h hi hU hzU hj]
      unfold putT
      rw [hb, if_pos rfl]
    have rp := ty_replace (d := d - 1) (S0 := S) (c := 360) (c2 := c2) (i := z.2.2.1) (j := j) (W := (V, false)) gT360 hc2 hne (by omega) hu.1 hu.2 hi hj wj (fun p h1 h2 => by
      refine ⟨?_, h.1.1.1 p (by omega)⟩
      by_cases q : p = z.2.2.1
      · subst q; exact Nat.le_refl _
      · exact h.1.1.2.1 p _ (by omega) h2) (ty_to hT hG)
    refine ev_gv ?_
    refine ev_gg (by decide) ?_
    refine ev_ite (fun y => absurd y (by decide)) (fun _ => ?_)
    rw [h10]
    refine ev_gv ?_
    refine ev_gg (by omega) ?_
    refine ev_gc rp (fun _ S1 q1 => ?_)
    have lt := (upd_tr (h := fun c => kyT (sg U j) (rq c)) V.length V z.2.2.1 (Nat.le_refl _) h hi ⟨tr_ky tt.1, pzl_ky tt.1.2.1 tt.2⟩).2
    rw [← rpl_upd h hi hU hzU hj] at lt
    rw [ky_len tt.1.2.1, sg_len h.1.1 hi, lsg] at lt
    rw [eT] at ptr ⊢
    by_cases cf : false = false ∧ (V, false).1.length + nz U j ≤ 100 + nz V z.2.2.1
    · rw [if_pos cf] at q1
      refine ev_gcr (ed_isDoc (d := d - 1) (by omega) (to_ty q1) ptr) ?_
      by_cases cd : pOK (rpl V z.2.2.1 U j)
      · rw [if_pos cd]
        simp only [if_pos cd]
        refine ev_gg (by decide) ?_
        exact ev_ret ⟨⟨rfl, to_ty q1⟩, q1.2.2.1, q1.2.2.2⟩
      · rw [if_neg cd]
        simp only [if_neg cd]
        refine ev_gg (by decide) ?_
        exact ev_ret ⟨rfl, q1.2.2.1, q1.2.2.2⟩
    · rw [if_neg cf] at q1
      refine ev_gcr (ed_isOver (d := d - 1) (by omega) (to_ty q1)) ?_
      refine ev_gg (by decide) ?_
      have : ¬ (V.length + nz U j ≤ 100 + nz V z.2.2.1) := fun y => cf ⟨rfl, y⟩
      simp only [if_neg (show ¬ pOK (rpl V z.2.2.1 U j) from fun y => by have := y.1; omega)]
      exact ev_ret ⟨rfl, q1.2.2.1, q1.2.2.2⟩
  | false =>
    have o2 := ok.2.2 hb
    have ho := ok.1
    generalize hO : z.2.1 = o at *
    generalize hP : z.2.2.2 = p at *
    generalize hA : z.2.2.1 = at' at *
    have ins := ty_insert (d := d - 1) (S0 := S) (c := 360) (c2 := c2) (o := o) (a := at') (j := j) (W := (V, false)) gT360 hc2 hne (by omega) hu.1 hu.2 hj wj o2.2.2.2.2.1 o2.2.2.2.1 (fun q h1 h2 => h.1.1.1 q (by omega)) (ty_to hT hG)
    have oA1 := o2.2.2.2.1
    have oA2 := o2.2.2.2.2.1
    have ek : kyA l V o = if nk V o = 5 then wdA l (nW l - 1) else [] := rfl
    have lk : (kyA l V o).length ≤ 12 := by
      rw [ek]
      split
      · rename_i c; exact (o2.2.2.2.2.2.2 c).1
      · decide
    have eT : putT l V z (sg U j) = spl V o at' 0 (kyT (sg U j) (kyA l V o)) := by
      rw [o2.2.2.1, ins_spl h ho o2.1 o2.2.1 ⟨tr_ky tt.1, pzl_ky tt.1.2.1 tt.2⟩]
      unfold putT
      rw [hb, if_neg (by decide), hO, hP]
    have e0 : spl V o at' 0 (sg U j) = updF (insT p (sg U j)) V.length V o := by rw [o2.2.2.1]; exact ins_spl h ho o2.1 o2.2.1 tt
    have sk := fun key => spl_key (V := V) (t := sg U j) (key := key) o2.2.2.2.2.1 o2.2.2.2.1 tt.1.2.1
    rw [eT] at ptr ⊢
    have lt : (spl V o at' 0 (sg U j)).length = V.length + nz U j := by
      rw [e0]
      have hs := tr_sg h.1.1 h.2 ho
      have r4 : 4 ≤ rk (sg V o) := by rw [rk_sg ho (pz o)]; exact o2.1
      have := (upd_tr (h := insT p (sg U j)) V.length V o (Nat.le_refl _) h ho (insT_tr hs r4 tt)).2
      rw [insT_len hs r4, lsg] at this
      omega
    have lt2 : (spl V o at' 0 (kyT (sg U j) (kyA l V o))).length = V.length + nz U j := by rw [← sk, List.length_set, lt]
    have la1 : at' < (spl V o at' 0 (sg U j)).length := by rw [lt]; omega
    have la2 : ((at' : Nat) : Int) < ((spl V o at' 0 (sg U j)).length : Int) := by omega
    have lo1 : o < (spl V o at' 0 (sg U j)).length := by omega
    refine ev_gv ?_
    refine ev_gg (by decide) ?_
    refine ev_ite (fun _ => ?_) (fun y => absurd rfl y)
    rw [h8]
    refine ev_gv ?_
    rw [h10]
    refine ev_gv ?_
    refine ev_gg (by omega) ?_
    refine ev_gc ins (fun _ S1 q1 => ?_)
    have e10 : S1.1 482 10 = (at' : Int) ∧ S1.1 482 8 = (o : Int) ∧ Fr (trM 360) S S1 ∧ Good S1 := by
      split at q1
      · exact ⟨by rw [(q1.2.2.1 482 (by unfold trM; omega)).1]; exact h10, by rw [(q1.2.2.1 482 (by unfold trM; omega)).1]; exact h8, q1.2.2.1, q1.2.2.2⟩
      · exact ⟨by rw [(q1.2.2.1 482 (by unfold trM; omega)).1]; exact h10, by rw [(q1.2.2.1 482 (by unfold trM; omega)).1]; exact h8, q1.2.2.1, q1.2.2.2⟩
    rw [e10.1]
    refine ev_gv ?_
    by_cases cf : false = false ∧ (V, false).1.length + nz U j ≤ 100
    · rw [if_pos cf] at q1
      have cf' : V.length + nz U j ≤ 100 := cf.2
      rw [show seg U j (nz U j) = sg U j from rfl] at q1
      refine ev_gc (ty_clearKey (d := d - 1) (i := (at' : Int)) gT360 q1 (by constructor <;> omega)) (fun _ S2 q2 => ?_)
      have e2 : S2.1 482 = S1.1 482 := by rw [(q2.2.2.1 482 (by unfold trM; omega)).1, (q1.2.2.1 482 (by unfold trM; omega)).1]
      rw [e2, e10.2.1]
      refine ev_gv ?_
      have eW : cKy (spl V o at' 0 (sg U j), false) (at' : Int) = (spl V o at' 0 (kyT (sg U j) []), false) := by
        unfold cKy
        rw [if_pos ⟨by omega, la2⟩, Int.toNat_natCast]
        show ((spl V o at' 0 (sg U j)).set at' _, false) = _
        rw [sk]
      rw [eW] at q2
      have nko : nk (spl V o at' 0 (kyT (sg U j) [])) o = nk V o := by
        rw [← sk]
        unfold nk
        rw [getD_set la1, if_neg (by omega)]
        exact nk_spl (by omega) ho
      have lo : (spl V o at' 0 (kyT (sg U j) [])).length = V.length + nz U j := by rw [← sk, List.length_set, lt]
      have ei : isI (spl V o at' 0 (kyT (sg U j) [])) (o : Int) 5 = if nk V o = 5 then 1 else 0 := by
        unfold isI
        rw [Int.toNat_natCast, nko]
        by_cases q : nk V o = 5
        · rw [if_pos q, if_pos ⟨by omega, q⟩]
        · rw [if_neg q, if_neg (fun y => q y.2)]
      refine ev_gcr (rd_as (t_is (d := d - 1) (i := (o : Int)) (k := 5) gT360 q2.1 (by constructor <;> omega) (by decide)) ei) ?_
      by_cases c5 : nk V o = 5
      · rw [if_pos c5]
        refine ev_gg (by decide) ?_
        refine ev_ite (fun y => absurd y (by decide)) (fun _ => ?_)
        rw [e2, e10.1]
        refine ev_gv ?_
        have hw2 : SV S2 452 (wdA l (nW l - 1)) := sv_ty gT360 gSh452 (hw hb) q2
        have wr := wdA_r (l := l) (k := nW l - 1) hl
        refine ev_gc (ty_setKey (d := d - 1) (i := (at' : Int)) gT360 gSh452 (by omega) hw2 (fun x hx => (wr x hx).2) (by constructor <;> omega) (ty_to (to_ty q2) q2.2.2.2)) (fun _ S3 q3 => ?_)
        have l12 := (o2.2.2.2.2.2.2 c5).1
        rw [stK_ok (by show at' < (spl V o at' 0 (kyT (sg U j) [])).length; omega) l12] at q3
        have eW3 : (spl V o at' 0 (kyT (sg U j) [])).set at' (wQ ((spl V o at' 0 (kyT (sg U j) [])).getD at' nd0) (wdA l (nW l - 1))) = spl V o at' 0 (kyT (sg U j) (kyA l V o)) := by
          rw [spl_key (V := V) (t := kyT (sg U j) []) o2.2.2.2.2.1 o2.2.2.2.1 (by rw [ky_len tt.1.2.1]; exact tt.1.2.1), ky_ky, ek, if_pos c5]
        have q3' : TY 360 S2 (spl V o at' 0 (kyT (sg U j) (kyA l V o)), false) S3 := by rw [← eW3]; exact q3
        have fr3 : Fr (trM 360) S S3 := fr_tr q2.2.2.1 q3'.2.2.1
        refine ev_gcr (ed_isDoc (d := d - 1) (by omega) (to_ty q3') ptr) ?_
        by_cases cd : pOK (spl V o at' 0 (kyT (sg U j) (kyA l V o)))
        · rw [if_pos cd]
          simp only [if_pos cd]
          refine ev_gg (by decide) ?_
          exact ev_ret ⟨⟨rfl, to_ty q3'⟩, fr3, q3'.2.2.2⟩
        · rw [if_neg cd]
          simp only [if_neg cd]
          refine ev_gg (by decide) ?_
          exact ev_ret ⟨rfl, fr3, q3'.2.2.2⟩
      · rw [if_neg c5]
        refine ev_gg (by decide) ?_
        refine ev_ite (fun _ => ?_) (fun y => absurd rfl y)
        have ek0 : kyA l V o = [] := by rw [ek, if_neg c5]
        rw [ek0] at ptr ⊢
        refine ev_gcr (ed_isDoc (d := d - 1) (by omega) (to_ty q2) ptr) ?_
        by_cases cd : pOK (spl V o at' 0 (kyT (sg U j) []))
        · rw [if_pos cd]
          simp only [if_pos cd]
          refine ev_gg (by decide) ?_
          exact ev_ret ⟨⟨rfl, to_ty q2⟩, q2.2.2.1, q2.2.2.2⟩
        · rw [if_neg cd]
          simp only [if_neg cd]
          refine ev_gg (by decide) ?_
          exact ev_ret ⟨rfl, q2.2.2.1, q2.2.2.2⟩
    · rw [if_neg cf] at q1
      have cf' : ¬ (V.length + nz U j ≤ 100) := fun y => cf ⟨rfl, y⟩
      simp only [if_neg (show ¬ pOK (spl V o at' 0 (kyT (sg U j) (kyA l V o))) from fun y => by have := y.1; omega)]
      -- it has too many NODES
      have q1' : TY 360 S (V, true) S1 := q1
      refine ev_gc (ty_clearKey (d := d - 1) (i := (at' : Int)) gT360 q1' (by constructor <;> omega)) (fun _ S2 q2 => ?_)
      have e2 : S2.1 482 = S1.1 482 := by rw [(q2.2.2.1 482 (by unfold trM; omega)).1, (q1'.2.2.1 482 (by unfold trM; omega)).1]
      rw [e2, e10.2.1]
      refine ev_gv ?_
      have c2t : (cKy (V, true) (at' : Int)).2 = true := cKy_2.1
      refine ev_gcr (t_is (d := d - 1) (i := (o : Int)) (k := 5) gT360 q2.1 (by constructor <;> omega) (by decide)) ?_
      refine ev_gg (by unfold isI; split <;> decide) ?_
      refine ev_ite (fun _ => ?_) (fun _ => ?_)
      · have t2 : TO 360 ((cKy (V, true) (at' : Int)).1, true) S2 := ⟨q2.1, q2.2.1.trans c2t⟩
        refine ev_gcr (ed_isOver (d := d - 1) (by omega) t2) ?_
        refine ev_gg (by decide) ?_
        exact ev_ret ⟨rfl, q2.2.2.1, q2.2.2.2⟩
      · rw [e2, e10.1]
        refine ev_gv ?_
        have hw2 : SV S2 452 (wdA l (nW l - 1)) := sv_ty gT360 gSh452 (hw hb) q2
        have wr := wdA_r (l := l) (k := nW l - 1) hl
        refine ev_gc (ty_setKey (d := d - 1) (i := (at' : Int)) gT360 gSh452 (by omega) hw2 (fun x hx => (wr x hx).2) (by constructor <;> omega) (ty_to (to_ty q2) q2.2.2.2)) (fun _ S3 q3 => ?_)
        have s2t : (stK (cKy (V, true) (at' : Int)) (at' : Int) (wdA l (nW l - 1))).2 = true := by
          by_cases y : (stK (cKy (V, true) (at' : Int)) (at' : Int) (wdA l (nW l - 1))).2 = false
          · have := (stK_f y).1
            rw [c2t] at this
            cases this
          · simpa using y
        have t3 : TO 360 ((stK (cKy (V, true) (at' : Int)) (at' : Int) (wdA l (nW l - 1))).1, true) S3 := ⟨q3.1, q3.2.1.trans s2t⟩
        refine ev_gcr (ed_isOver (d := d - 1) (by omega) t3) ?_
        refine ev_gg (by decide) ?_
        exact ev_ret ⟨rfl, fr_tr q2.2.2.1 q3.2.2.1, q3.2.2.2⟩
end PU2
