/-! THE REFERENCE: rows -/
def rwC (V : List ND) (k x : Nat) : List ND := kyT (sg V ((kids V x).getD k 0)) (nq V x)
def rwT1 (V : List ND) (R : List Nat) (k : Nat) : List ND := gpN (ndK 5) (R.map (rwC V k)) (R.map (rwC V k)).length
def rwL (V : List ND) : List (List ND) := (List.range (kids V 1).length).map (rwT1 V (kids V 0))
def rwT (V : List ND) : List ND := gpN (ndK 4) (rwL V) (rwL V).length
/-- what is a TABLE by COLUMNS -/
abbrev tbQ (V : List ND) : Prop := rk V = 5 ∧ kids V 0 ≠ [] ∧ (∀ x ∈ kids V 0, nk V x = 4) ∧ ∀ x ∈ kids V 0, (kids V x).length = (kids V 1).length
section TR0
variable {V : List ND}
theorem tb_1 (hV : DOC V) (h : kids V 0 ≠ []) : 1 < V.length ∧ (kids V 0).getD 0 0 = 1 ∧ (kids V 1).length ≤ 100 := by
  have hV0 := hV.1.1
  have l1 := hV0.1.2.1
  have n1 := List.length_pos_iff.mpr h
  have w0 := hV0.1.1.1 0 (by omega)
  have e10 : (kids V 0).getD 0 0 = 1 := by
    have zz : 1 < 0 + nz V 0 := by
      have := kids_le hV0.1.1 (pz_l hV0.2) (g := 0)
      omega
    have : kids V 0 = ks V (0 + 1) (0 + nz V 0) := rfl
    rw [this, ks_cons (pz_l hV0.2) (by omega)]
    rfl
  have ka := kid_at hV0 (g := 0) (k := 0) (by omega) (by omega)
  rw [e10] at ka
  exact ⟨ka.1, e10, kids_100 hV0.1.1 (pz_l hV0.2) hV.2.2.1 ka.1⟩
theorem rw_1 (hV : DOC V) (hq : tbQ V) {k : Nat} (hk : k < (kids V 1).length) : (∀ t ∈ (kids V 0).map (rwC V k), SDC t) ∧ (TR (rwT1 V (kids V 0) k) ∧ PZL (rwT1 V (kids V 0) k)) ∧ rq (rwT1 V (kids V 0) k) = [] ∧ ((rwT1 V (kids V 0) k).length ≤ 100 → SDC (rwT1 V (kids V 0) k)) := by
  have hV0 := hV.1.1
  have l1 := hV0.1.2.1
  have all : ∀ t ∈ (kids V 0).map (rwC V k), SDC t := fun t ht => by
    obtain ⟨x, hx, rfl⟩ := List.mem_map.mp ht
    have xl := kids_lt hV x hx
    have kl : k < (kids V x).length := by rw [hq.2.2.2 x hx]; exact hk
    have ka := kid_at hV0 xl kl
    have sv := sdc_sg V.length V (Nat.le_refl _) hV.1 _ ka.1
    have nr := (hV.1.2.1 _ (nd_mem xl)).1
    exact sdc_ky sv nr.2.2.2.2.2.2.2.2.2 nr.2.2.2.2.2.2.2.2.1
  refine ⟨all, ⟨tr_gp (show (4 : Int) ≤ 5 by decide) (fun t ht => (all t ht).1.1), pzl_gp (fun t ht => (all t ht).1.2)⟩, rfl, fun hl => ?_⟩
  have hl2 : ((kids V 0).map (rwC V k)).flatten.length < 100 := by
    unfold rwT1 gpN at hl
    rw [List.length_cons] at hl
    omega
  have er : ((kids V 0).map (rwC V k)).map rq = (kids V 0).map (nq V) := by
    rw [List.map_map]
    rfl
  exact sdc_gp (show (4 : Int) ≤ 5 by decide) ⟨nr_mk (by decide) (by decide) (by decide) (fun y hy => by cases hy), Or.inr (Or.inr (Or.inr (Or.inr ⟨show (4 : Int) ≤ 5 by decide, rfl, rfl⟩)))⟩ all (fun _ => by rw [er]; exact kuv_sdc hV.1 0 (by omega) hq.1) (fun z => absurd (show (5 : Int) = 4 from z) (by decide)) hl2
theorem rwT_ok (hV : DOC V) (hq : tbQ V) : (∀ t ∈ rwL V, TR t ∧ PZL t) ∧ (TR (rwT V) ∧ PZL (rwT V)) ∧ rq (rwT V) = [] ∧ ((rwT V).length ≤ 100 → SDC (rwT V)) := by
  have all : ∀ t ∈ rwL V, (TR t ∧ PZL t) ∧ rq t = [] ∧ (t.length ≤ 100 → SDC t) := fun t ht => by
    obtain ⟨k, hk, rfl⟩ := List.mem_map.mp ht
    exact (rw_1 hV hq (List.mem_range.mp hk)).2
  refine ⟨fun t ht => (all t ht).1, ⟨tr_gp (show (4 : Int) ≤ 4 by decide) (fun t ht => (all t ht).1.1), pzl_gp (fun t ht => (all t ht).1.2)⟩, rfl, fun hl => ?_⟩
  have hl2 : (rwL V).flatten.length < 100 := by
    unfold rwT gpN at hl
    rw [List.length_cons] at hl
    omega
  refine sdc_gp (show (4 : Int) ≤ 4 by decide) ⟨nr_mk (by decide) (by decide) (by decide) (fun y hy => by cases hy), Or.inr (Or.inr (Or.inr (Or.inr ⟨show (4 : Int) ≤ 4 by decide, rfl, rfl⟩)))⟩ (fun t ht => ?_) (fun z => absurd (show (4 : Int) = 5 from z) (by decide)) (fun _ t ht => (all t ht).2.1) hl2
  have : t.length ≤ (rwL V).flatten.length := List.Sublist.length_le (List.sublist_flatten_of_mem ht)
  exact (all t ht).2.2 (by omega)
end TR0
section TR1
variable {S : GS} {d A : Nat} {V : List ND}
/-- VALUES of a MAP that is a row -/
theorem q_rowCells {a : Int} {k : Nat} {r0 : Option (List ND)} {Qf : Int → GS → Prop} (hd : 8 ≤ d) (ha : a = (A : Int)) (hA : A < 40) (hV : DOC V) (hq : tbQ V) (hk : k < (kids V 1).length) (h : LK S A V) (nx : ∀ S1, MD S1 40 (apM r0 (wZ (ndK 5) (kids V 0).length :: (((kids V 0).map (rwC V k)).map mny).flatten)) → FC cmP S S1 → Ev (fun n => f_X12_rows n d 155 S1 [a, ((kids V 0).length : Int), ((kids V 1).length : Int), ((k + 1 : Nat) : Int)]) Qf) : ∀ (u j : Nat) (S1 : GS), j + u = (kids V 0).length → MD S1 40 (apM r0 (wZ (ndK 5) (kids V 0).length :: ((((kids V 0).map (rwC V k)).take j).map mny).flatten)) → FC cmP S S1 → Ev (fun n => f_X12_rows n d 189 S1 [a, ((kids V 0).length : Int), ((kids V 1).length : Int), (k : Int), (j : Int)]) Qf := by
  have hV0 := hV.1.1
  have l1 := hV0.1.2.1
  have l100 := hV.2.2.1
  have kl := kids_100 hV0.1.1 (pz_l hV0.2) l100 (g := 0) (by omega)
  intro u
  induction u with
  | zero =>
    intro j S1 hju m1 f1
    rw [List.take_of_length_le (by rw [List.length_map]; omega)] at m1
    have k1 := (tb_1 hV hq.2.1).2.2
    refine ev_up (fun n => e_X12_rows_189) ?_
    unfold b_X12_rows_189
    refine ev_gg (by first | omega | (constructor <;> omega)) ?_
    refine ev_gg (by first | omega | (constructor <;> omega)) ?_
    refine ev_ite (fun _ => ?_) (fun z => by omega)
    refine ev_gv ?_
    rw [show (k : Int) + 1 = ((k + 1 : Nat) : Int) by omega]
    exact nx S1 m1 f1
  | succ u ih =>
    intro j S1 hju m1 f1
    have jl : j < (kids V 0).length := by omega
    have ka := kid_at hV0 (g := 0) (by omega) jl
    have km : (kids V 0).getD j 0 ∈ kids V 0 := by
      rw [List.getD_eq_getElem?_getD, List.getElem?_eq_getElem jl]
      exact List.getElem_mem jl
    have kk : k < (kids V ((kids V 0).getD j 0)).length := by rw [hq.2.2.2 _ km]; exact hk
    have kb := kid_at hV0 ka.1 kk
    have L1 := lk_fr h f1 (fun j _ _ => by omega) (by omega)
    have nr := L1.2.2.2 _ (nd_mem ka.1)
    have k1 := (tb_1 hV hq.2.1).2.2
    refine ev_up (fun n => e_X12_rows_189) ?_
    unfold b_X12_rows_189
    refine ev_gg (by first | omega | (constructor <;> omega)) ?_
    refine ev_gg (by first | omega | (constructor <;> omega)) ?_
    refine ev_ite (fun z => by omega) (fun _ => ?_)
    refine ev_gg (by first | omega | (constructor <;> omega)) ?_
    refine ev_gcr (q_kidAt (d := d - 1) (K := A) (G := 0) (P := j) (V := V) (by omega) ha (by omega) rfl rfl L1 hV0 (by omega) jl) ?_
    refine ev_gc (q_wordOfKey (d := d - 1) (K := A) (I := (kids V 0).getD j 0) (V := V) (by omega) ha (by omega) rfl L1 ka.1) (fun _ S2 q2 => ?_)
    obtain ⟨w2, f2⟩ := q2
    have L2 := lk_fr L1 f2 (fun j _ _ => by omega) (by omega)
    refine ev_gcr (q_kidAt (d := d - 1) (K := A) (G := (kids V 0).getD j 0) (P := k) (V := V) (by omega) ha (by omega) rfl rfl L2 hV0 ka.1 kk) ?_
    refine ev_gc (q_brings (d := d - 1) (K := 40) (F := A) (I := (kids V ((kids V 0).getD j 0)).getD k 0) (M := 1) (w := nq V ((kids V 0).getD j 0)) (by omega) rfl (by decide) ha (by omega) rfl rfl (by decide) (by omega) L2 hV0 kb.1 (fun _ => ⟨w2, nr.2.2.2.2.2.2.2.2.1⟩) (mdr_fr m1 f2 (fun j _ _ => by omega) (by omega) (by omega))) (fun _ S3 q3 => ?_)
    obtain ⟨m3, f3⟩ := q3
    rw [if_pos rfl] at m3
    refine ev_gv ?_
    rw [show (j : Int) + 1 = ((j + 1 : Nat) : Int) by omega]
    refine ih (j + 1) S3 (by omega) ?_ (fc_tr f1 (fc_tr (fc_mono f2 (fun c j z => Or.inr z)) (fc_mono f3 (fun c j z => Or.inl z))))
    rw [tk_map (z := 0) jl, List.map_append, List.flatten_append, List.map_cons, List.map_nil, List.flatten_cons, List.flatten_nil, List.append_nil]
    rw [apM_app, List.cons_append] at m3
    exact m3
/-- all rows -/
theorem q_rowsAll {a : Int} {Qf : Int → GS → Prop} (hd : 10 ≤ d) (ha : a = (A : Int)) (hA : A < 40) (hV : DOC V) (hq : tbQ V) (h : LK S A V) (fin : ∀ S1, MD S1 40 (apM (some []) (mny (rwT V))) → FC cmP S S1 → Ev (fun n => f_X12_rows n d 155 S1 [a, ((kids V 0).length : Int), ((kids V 1).length : Int), ((kids V 1).length : Int)]) Qf) (hm : MD S 40 (apM (some []) [wZ (ndK 4) (kids V 1).length])) : Ev (fun n => f_X12_rows n d 155 S [a, ((kids V 0).length : Int), ((kids V 1).length : Int), 0]) Qf := by
  have hV0 := hV.1.1
  have l1 := hV0.1.2.1
  have l100 := hV.2.2.1
  have kl := kids_100 hV0.1.1 (pz_l hV0.2) l100 (g := 0) (by omega)
  have k1 : (kids V 1).length ≤ 100 := (tb_1 hV hq.2.1).2.2
  obtain ⟨ct, _, _, _⟩ := rwT_ok hV hq
  have lr : (rwL V).length = (kids V 1).length := by
    unfold rwL
    rw [List.length_map, List.length_range]
  have em : mny (rwT V) = wZ (ndK 4) (kids V 1).length :: ((rwL V).map mny).flatten := by
    rw [← lr]
    exact mny_gp (x := ndK 4) (show (4 : Int) ≤ 4 by decide) ct
  rw [em] at fin
  have lp : ∀ (u k : Nat) (S1 : GS), k + u = (kids V 1).length → MD S1 40 (apM (some []) (wZ (ndK 4) (kids V 1).length :: (((rwL V).take k).map mny).flatten)) → FC cmP S S1 → Ev (fun n => f_X12_rows n d 155 S1 [a, ((kids V 0).length : Int), ((kids V 1).length : Int), (k : Int)]) Qf := by
    intro u
    induction u with
    | zero =>
      intro k S1 hk m1 f1
      have ek : k = (kids V 1).length := by omega
      subst ek
      rw [List.take_of_length_le (by omega)] at m1
      exact fin S1 m1 f1
    | succ u ih =>
      intro k S1 hk m1 f1
      have kl2 : k < (kids V 1).length := by omega
      have L1 := lk_fr h f1 (fun j _ _ => by omega) (by omega)
      obtain ⟨n3, n31, n32, n33⟩ := md_n m1
      refine ev_up (fun n => e_X12_rows_155) ?_
      unfold b_X12_rows_155
      refine ev_gg (by first | omega | (constructor <;> omega)) ?_
      refine ev_gg (by first | omega | (constructor <;> omega)) ?_
      refine ev_ite (fun z => by omega) (fun _ => ?_)
      refine ev_gg (by first | omega | (constructor <;> omega)) ?_
      refine ev_gc (q_added (d := d - 1) (K := 40) (by omega) rfl (by decide) (by decide) m1) (fun y S2 q2 => ?_)
      obtain ⟨m2, f2, ye⟩ := q2
      rw [n32] at ye
      subst ye
      have m2' : MD S2 40 (apM (apM (some []) (wZ (ndK 4) (kids V 1).length :: (((rwL V).take k).map mny).flatten)) (wZ (ndK 5) 0 :: [])) := m2
      have m3 := md_put (v := (kids V 0).length) m2' (fun V0 hV0 _ => n33 V0 hV0) n31 (by omega)
      refine ev_gcr (q_at) ?_
      refine ev_gv ?_
      refine ev_gg (by first | omega | (constructor <;> omega)) ?_
      refine ev_gv ?_
      rw [show (((101 * 40 + (n3 : Int)) * 61 + 3 : Int)).toNat = 6161 * 40 + 61 * n3 + 3 by omega]
      have f3 : FC (doP 40) S2 (gI S2 501 (6161 * 40 + 61 * n3 + 3) ((kids V 0).length : Int)) := fc_gI (Or.inl ⟨rfl, by omega, by omega⟩)
      generalize gI S2 501 (6161 * 40 + 61 * n3 + 3) ((kids V 0).length : Int) = S3 at m3 f3 ⊢
      have f03 : FC cmP S S3 := fc_tr f1 (fc_tr (fc_mono f2 (fun c j z => Or.inl z)) (fc_mono f3 (fun c j z => Or.inl z)))
      refine q_rowCells (S := S3) (A := A) (V := V) (k := k) (r0 := apM (some []) (wZ (ndK 4) (kids V 1).length :: (((rwL V).take k).map mny).flatten)) (by omega) ha hA hV hq kl2 (lk_fr h f03 (fun j _ _ => by omega) (by omega)) (fun S4 m4 f4 => ?_) (kids V 0).length 0 S3 (by omega) m3 fc_rf
      refine ih (k + 1) S4 (by omega) ?_ (fc_tr f03 f4)
      have ec2 : mny (rwT1 V (kids V 0) k) = wZ (ndK 5) (kids V 0).length :: (((kids V 0).map (rwC V k)).map mny).flatten := by
        unfold rwT1
        rw [mny_gp (x := ndK 5) (show (4 : Int) ≤ 5 by decide) (fun t ht => ((rw_1 hV hq kl2).1 t ht).1), List.length_map]
      have et : (rwL V).take (k + 1) = (rwL V).take k ++ [rwT1 V (kids V 0) k] := by
        unfold rwL
        rw [tk_map (z := 0) (by rw [List.length_range]; omega)]
        have : (List.range (kids V 1).length).getD k 0 = k := by
          rw [List.getD_eq_getElem?_getD, List.getElem?_range kl2]
          rfl
        rw [this]
      rw [et, List.map_append, List.flatten_append, List.map_cons, List.map_nil, List.flatten_cons, List.flatten_nil, List.append_nil, ec2]
      rw [apM_app, List.cons_append] at m4
      exact m4
  exact lp (kids V 1).length 0 S (by omega) hm fc_rf
end TR1
section TR2
variable {S0 S : GS} {T0 : List ND} {Ds : List (List ND)} {pg pp : List Int} {r : Int} {L : List Nat} {Q : List (List Int)} {C : List (Int × Int)} {d : Nat}
theorem r_rows {a : Int} (hd : 12 ≤ d) (ha : inr a) (h : RfS S0 T0 Ds pg pp r L Q C S) : Ev (fun n => f_X12_rows n d 0 S [a]) (fun x S1 => if hasD Ds a then (if tbQ (atD' Ds a) then (if pOK (rwT (atD' Ds a)) ∧ Ds.length < 40 then x = (Ds.length : Int) ∧ S1.1 500 0 = 0 ∧ RfS S0 T0 (Ds ++ [rwT (atD' Ds a)]) pg pp r L Q C S1 else S1.1 500 0 = 2 ∧ RfS S0 T0 Ds pg pp r L Q C S1) else S1.1 500 0 = 2 ∧ RfS S0 T0 Ds pg pp r L Q C S1) else S1.1 500 0 = 1 ∧ RfS S0 T0 Ds pg pp r L Q C S1) := by
  have n4 := h.1.2.1
  refine ev_up (fun n => e_X12_rows_0) ?_
  unfold b_X12_rows_0
  refine ev_gg (by first | omega | (constructor <;> omega)) ?_
  refine ev_gcr (r_isDoc (d := d - 1) (by omega) ha h) ?_
  refine fa_c (p := hasD Ds a) rfl h (fun c S1 t1 f1 h1 => ?_) (fun c S1 t1 f1 h1 => ?_)
  · refine ev_gg (by decide) ?_
    refine ev_ite (fun _ => ?_) (fun z => by omega)
    simp only [if_pos c]
    obtain ⟨e1, e2, e3, e4⟩ := r_at h1 c
    have lb := e4.1.1.1.2.1
    have l100 := e4.2.2.1
    have hV0 := e4.1.1
    have nr := e3.2.2.2 _ (nd_mem (i := 0) (by omega))
    have nr1 : 0 ≤ nk (atD' Ds a) 0 ∧ nk (atD' Ds a) 0 ≤ 5 := ⟨nr.1, nr.2.1⟩
    have rk0 : rk (atD' Ds a) = nk (atD' Ds a) 0 := rfl
    have kl := kids_100 e4.1.1.1.1 (pz_l e4.1.1.2) l100 (g := 0) (by omega)
    have bad : ∀ x10 : Int, Ev (fun n => f_X12_rows n d 101 S1 [a, x10, 0]) (fun _ S1 => S1.1 500 0 = 2 ∧ RfS S0 T0 Ds pg pp r L Q C S1) := by
      intro x10
      refine ev_up (fun n => e_X12_rows_101) ?_
      unfold b_X12_rows_101
      refine ev_gg (by first | omega | (constructor <;> omega)) ?_
      refine fa_c (p := False) (by rw [if_neg (fun z => z)]) h1 (fun z => z.elim) (fun _ S3 t3 f3 h3 => ?_)
      refine ev_gg (by decide) ?_
      refine ev_ite (fun z => by omega) (fun _ => ?_)
      exact ev_ret ⟨t3, h3⟩
    have bad1 : ¬ tbQ (atD' Ds a) → Ev (fun n => f_X12_rows n d 55 S1 [a, ((kids (atD' Ds a) 0).length : Int), 0, 1]) (fun x S1 => if tbQ (atD' Ds a) then (if pOK (rwT (atD' Ds a)) ∧ Ds.length < 40 then x = (Ds.length : Int) ∧ S1.1 500 0 = 0 ∧ RfS S0 T0 (Ds ++ [rwT (atD' Ds a)]) pg pp r L Q C S1 else S1.1 500 0 = 2 ∧ RfS S0 T0 Ds pg pp r L Q C S1) else S1.1 500 0 = 2 ∧ RfS S0 T0 Ds pg pp r L Q C S1) := by
      intro nq
      refine ev_up (fun n => e_X12_rows_55) ?_
      unfold b_X12_rows_55
      refine ev_gg (by decide) ?_
      refine ev_gg (by first | omega | (constructor <;> omega)) ?_
      simp only [if_neg nq]
      refine ev_ite (fun _ => bad _) (fun _ => ?_)
      refine ev_gg (by decide) ?_
      refine ev_ite (fun _ => bad _) (fun z => absurd trivial z)
    refine ev_gcr (q_manyL (d := d - 1) (K := a.toNat) (I := 0) (V := atD' Ds a) (by omega) e1 (by omega) rfl e3 (by omega)) ?_
    refine ev_gcr (q_kindL (d := d - 1) (K := a.toNat) (I := 0) (V := atD' Ds a) (by omega) e1 (by omega) rfl e3 (by omega)) ?_
    refine ev_gg (by first | omega | (constructor <;> omega)) ?_
    refine ev_ite (fun z => ?_) (fun z => ?_)
    · exact bad1 (fun y => z y.1)
    refine ev_gg (by first | omega | (constructor <;> omega)) ?_
    refine ev_ite (fun z2 => ?_) (fun z2 => ?_)
    · exact bad1 (fun y => y.2.1 (List.length_eq_zero_iff.mp (by omega)))
    refine ev_gcr (q_areAll (d := d - 1) (A := a.toNat) (V := atD' Ds a) (by omega) e1 (by omega) (by decide) e3 e4.1.1) ?_
    by_cases c5 : ∀ x ∈ kids (atD' Ds a) 0, nk (atD' Ds a) x = 4
    · rw [if_pos c5]
      refine ev_gg (by decide) ?_
      refine ev_ite (fun y => absurd y (by decide)) (fun _ => ?_)
      obtain ⟨l1, e10, k1l⟩ := tb_1 e4 (fun w => z2 (by rw [w]; exact Int.le_refl _))
      have lens : ∀ (u i : Nat) (s : Int), i + u = (kids (atD' Ds a) 0).length → 1 ≤ i → s = (if ∀ x ∈ (kids (atD' Ds a) 0).take i, (kids (atD' Ds a) x).length = (kids (atD' Ds a) 1).length then 1 else 0) → (∀ s2 : Int, s2 = (if ∀ x ∈ kids (atD' Ds a) 0, (kids (atD' Ds a) x).length = (kids (atD' Ds a) 1).length then 1 else 0) → Ev (fun n => f_X12_rows n d 101 S1 [a, ((kids (atD' Ds a) 0).length : Int), s2]) (fun x S1 => if tbQ (atD' Ds a) then (if pOK (rwT (atD' Ds a)) ∧ Ds.length < 40 then x = (Ds.length : Int) ∧ S1.1 500 0 = 0 ∧ RfS S0 T0 (Ds ++ [rwT (atD' Ds a)]) pg pp r L Q C S1 else S1.1 500 0 = 2 ∧ RfS S0 T0 Ds pg pp r L Q C S1) else S1.1 500 0 = 2 ∧ RfS S0 T0 Ds pg pp r L Q C S1)) → Ev (fun n => f_X12_rows n d 55 S1 [a, ((kids (atD' Ds a) 0).length : Int), s, (i : Int)]) (fun x S1 => if tbQ (atD' Ds a) then (if pOK (rwT (atD' Ds a)) ∧ Ds.length < 40 then x = (Ds.length : Int) ∧ S1.1 500 0 = 0 ∧ RfS S0 T0 (Ds ++ [rwT (atD' Ds a)]) pg pp r L Q C S1 else S1.1 500 0 = 2 ∧ RfS S0 T0 Ds pg pp r L Q C S1) else S1.1 500 0 = 2 ∧ RfS S0 T0 Ds pg pp r L Q C S1) := by
        intro u
        induction u with
        | zero =>
          intro i s hi hi1 hs nx
          rw [List.take_of_length_le (by omega)] at hs
          refine ev_up (fun n => e_X12_rows_55) ?_
          unfold b_X12_rows_55
          refine ev_gg (by first | omega | (constructor <;> omega)) ?_
          refine ev_gg (by first | omega | (constructor <;> omega)) ?_
          refine ev_ite (fun _ => ?_) (fun z => by omega)
          exact nx s hs
        | succ u ih =>
          intro i s hi hi1 hs nx
          have il : i < (kids (atD' Ds a) 0).length := by omega
          have ka := kid_at hV0 (g := 0) (by omega) il
          have tk := tk_1 (z := 0) il
          have kx := kids_100 hV0.1.1 (pz_l hV0.2) l100 (g := (kids (atD' Ds a) 0).getD i 0) ka.1
          refine ev_up (fun n => e_X12_rows_55) ?_
          unfold b_X12_rows_55
          refine ev_gg (by first | omega | (constructor <;> omega)) ?_
          refine ev_gg (by first | omega | (constructor <;> omega)) ?_
          refine ev_ite (fun z => by omega) (fun _ => ?_)
          by_cases cc : ∀ x ∈ (kids (atD' Ds a) 0).take i, (kids (atD' Ds a) x).length = (kids (atD' Ds a) 1).length
          · rw [if_pos cc] at hs
            subst hs
            refine ev_gg (by decide) ?_
            refine ev_ite (fun z => absurd z (by decide)) (fun _ => ?_)
            refine ev_gg (by first | omega | (constructor <;> omega)) ?_
            refine ev_gcr (q_kidAt (d := d - 1) (K := a.toNat) (G := 0) (P := i) (V := atD' Ds a) (by omega) e1 (by omega) rfl rfl e3 hV0 (by omega) il) ?_
            refine ev_gcr (q_manyL (d := d - 1) (K := a.toNat) (I := (kids (atD' Ds a) 0).getD i 0) (V := atD' Ds a) (by omega) e1 (by omega) rfl e3 ka.1) ?_
            refine ev_gcr (q_manyL (d := d - 1) (K := a.toNat) (I := 1) (V := atD' Ds a) (by omega) e1 (by omega) rfl e3 l1) ?_
            refine ev_gg (by first | omega | (constructor <;> omega)) ?_
            refine ev_gg (by first | omega | (constructor <;> omega)) ?_
            refine ev_ite (fun z => ?_) (fun z => ?_)
            · refine ev_gv ?_
              rw [show (i : Int) + 1 = ((i + 1 : Nat) : Int) by omega]
              refine ih (i + 1) 0 (by omega) (by omega) ?_ nx
              rw [tk, if_neg (fun w => z (by rw [w _ (List.mem_append.mpr (Or.inr List.mem_cons_self))]))]
            · refine ev_gv ?_
              rw [show (i : Int) + 1 = ((i + 1 : Nat) : Int) by omega]
              refine ih (i + 1) 1 (by omega) (by omega) ?_ nx
              rw [tk, if_pos (fun x hx => ?_)]
              rcases List.mem_append.mp hx with w | w
              · exact cc x w
              · rw [List.mem_singleton] at w
                rw [w]
                omega
          · rw [if_neg cc] at hs
            subst hs
            refine ev_gg (by decide) ?_
            refine ev_ite (fun _ => ?_) (fun z => absurd rfl z)
            refine nx 0 ?_
            rw [if_neg (fun w => cc (fun x hx => w x (List.mem_of_mem_take hx)))]
      have t1' : (kids (atD' Ds a) 0).take 1 = [1] := by
        have := tk_1 (R := kids (atD' Ds a) 0) (j := 0) (z := 0) (by omega)
        rw [e10] at this
        exact this
      refine lens ((kids (atD' Ds a) 0).length - 1) 1 1 (by omega) (Nat.le_refl 1) ?_ (fun s2 hs2 => ?_)
      · rw [t1', if_pos (fun x hx => by rw [List.mem_singleton] at hx; rw [hx])]
      by_cases c6 : ∀ x ∈ kids (atD' Ds a) 0, (kids (atD' Ds a) x).length = (kids (atD' Ds a) 1).length
      · rw [if_pos c6] at hs2
        subst hs2
        have hq : tbQ (atD' Ds a) := ⟨by omega, fun w => z2 (by rw [w]; exact Int.le_refl _), c5, c6⟩
        simp only [if_pos hq]
        obtain ⟨_, ctr, crq, csd⟩ := rwT_ok e4 hq
        refine ev_up (fun n => e_X12_rows_101) ?_
        unfold b_X12_rows_101
        refine ev_gg (by first | omega | (constructor <;> omega)) ?_
        refine fa_c (p := True) (by rw [if_pos trivial]) h1 (fun _ S3 t3 f3 h3 => ?_) (fun z => absurd trivial z)
        refine ev_gg (by decide) ?_
        refine ev_ite (fun _ => ?_) (fun z => by omega)
        refine ev_gc (q_begin1 (d := d - 1) (k := 40) (K := 40) rfl (by decide)) (fun _ S4 q4 => ?_)
        obtain ⟨m4, f4⟩ := q4
        have h4 := rf_sc h3 f4 (fun c j z => by omega)
        refine ev_gc (q_added (d := d - 1) (K := 40) (by omega) rfl (by decide) (by decide) m4) (fun y S5 q5 => ?_)
        obtain ⟨m5, f5, ye⟩ := q5
        have z40 : S4.1 502 40 = 0 := m4.2.1
        rw [z40] at ye
        subst ye
        have h5 := rf_sc h4 f5 (fun c j z => by omega)
        have t5 : S5.1 500 0 = 0 := by rw [fc_i f5 (by omega), fc_i f4 (by omega)]; exact t3
        obtain ⟨g1, g2, g3, g4⟩ := r_at h5 c
        refine ev_gcr (q_manyL (d := d - 1) (K := a.toNat) (I := 1) (V := atD' Ds a) (by omega) g1 (by omega) rfl g3 l1) ?_
        refine ev_gcr (q_at) ?_
        refine ev_gv ?_
        refine ev_gg (by first | omega | (constructor <;> omega)) ?_
        refine ev_gv ?_
        rw [show (((101 * 40 + (0 : Int)) * 61 + 3 : Int)).toNat = 6161 * 40 + 61 * 0 + 3 by decide]
        have m5' : MD S5 40 (apM (some []) (wZ (ndK 4) 0 :: [])) := m5
        have m6 := md_put (v := (kids (atD' Ds a) 1).length) (ix := 0) m5' (fun V0 hV0 _ => by
          have e0 : ([] : List ND) = V0 := Option.some.inj hV0
          rw [← e0]
          rfl) (by decide) (by omega)
        have f6 : FC (doP 40) S5 (gI S5 501 (6161 * 40 + 61 * 0 + 3) ((kids (atD' Ds a) 1).length : Int)) := fc_gI (Or.inl ⟨rfl, by omega, by omega⟩)
        generalize gI S5 501 (6161 * 40 + 61 * 0 + 3) ((kids (atD' Ds a) 1).length : Int) = S6 at m6 f6 ⊢
        have h6 := rf_sc h5 f6 (fun c j z => by omega)
        have t6 : S6.1 500 0 = 0 := by rw [fc_i f6 (by omega)]; exact t5
        obtain ⟨b1, b2, b3, b4⟩ := r_at h6 c
        refine q_rowsAll (d := d) (A := a.toNat) (V := atD' Ds a) (by omega) b1 b2 b4 hq b3 (fun S7 m7 f7 => ?_) m6
        have h7 := rf_sc h6 f7 (fun c j z => by omega)
        have t7 : S7.1 500 0 = 0 := by rw [fc_i f7 (by omega)]; exact t6
        refine ev_up (fun n => e_X12_rows_155) ?_
        unfold b_X12_rows_155
        refine ev_gg (by first | omega | (constructor <;> omega)) ?_
        refine ev_gg (by first | omega | (constructor <;> omega)) ?_
        refine ev_ite (fun _ => ?_) (fun z => by omega)
        refine ev_gg (by first | omega | (constructor <;> omega)) ?_
        refine ev_gc (q_isWhole (d := d - 1) (K := 40) (T := rwT (atD' Ds a)) (by omega) rfl (by decide) ctr (fun hl y hy => ((csd hl).2.1 y hy).1) m7) (fun x S8 q8 => ?_)
        obtain ⟨x8, l8, f8⟩ := q8
        have h8 := rf_sc h7 f8 (fun c j z => by omega)
        have t8 : S8.1 500 0 = 0 := by rw [fc_i f8 (by omega)]; exact t7
        have p265 : ∀ (s0 : Int) (P : Prop) [Decidable P], s0 = (if P then 1 else 0) → (P ↔ pOK (rwT (atD' Ds a)) ∧ Ds.length < 40) → Ev (fun n => f_X12_rows n d 265 S8 [s0]) (fun x S1 => if pOK (rwT (atD' Ds a)) ∧ Ds.length < 40 then x = (Ds.length : Int) ∧ S1.1 500 0 = 0 ∧ RfS S0 T0 (Ds ++ [rwT (atD' Ds a)]) pg pp r L Q C S1 else S1.1 500 0 = 2 ∧ RfS S0 T0 Ds pg pp r L Q C S1) := by
          intro s0 P _ hs0 hp
          refine ev_up (fun n => e_X12_rows_265) ?_
          unfold b_X12_rows_265
          refine ev_gg (by first | omega | (constructor <;> omega)) ?_
          refine fa_c (p := P) hs0 h8 (fun c5 S9 t9 f9 h9 => ?_) (fun c5 S9 t9 f9 h9 => ?_)
          · have c6 := hp.mp c5
            refine ev_gg (by decide) ?_
            refine ev_ite (fun _ => ?_) (fun z => by omega)
            simp only [if_pos c6]
            refine ev_gc (r_keeps (d := d - 1) (K := 40) (by omega) rfl (by decide) h9 c6.2 (lk_fr (l8 c6.1) f9 (fun j _ _ => by omega) (by omega)) (doc_p (csd c6.1.1) c6.1 crq)) (fun y S10 q10 => ?_)
            exact ev_ret ⟨q10.1, by rw [q10.2.1]; exact t9, q10.2.2⟩
          · refine ev_gg (by decide) ?_
            refine ev_ite (fun z => by omega) (fun _ => ?_)
            simp only [if_neg (fun z => c5 (hp.mpr z))]
            exact ev_ret ⟨t9, h9⟩
        rw [x8]
        by_cases cp : pOK (rwT (atD' Ds a))
        · rw [if_pos cp]
          refine ev_gg (by decide) ?_
          refine ev_ite (fun z => by omega) (fun _ => ?_)
          refine ev_gv ?_
          rw [h8.1.1]
          refine ev_gg (by first | omega | (constructor <;> omega)) ?_
          refine ev_ite (fun y => ?_) (fun y => ?_)
          · exact p265 0 False (by rw [if_neg (fun z => z)]) ⟨fun z => z.elim, fun z => by omega⟩
          · exact p265 1 True (by rw [if_pos trivial]) ⟨fun _ => ⟨cp, by omega⟩, fun _ => trivial⟩
        · rw [if_neg cp]
          refine ev_gg (by decide) ?_
          refine ev_ite (fun _ => ?_) (fun z => by omega)
          exact p265 0 False (by rw [if_neg (fun z => z)]) ⟨fun z => z.elim, fun z => cp z.1⟩
      · rw [if_neg c6] at hs2
        subst hs2
        simp only [if_neg (show ¬ tbQ (atD' Ds a) from fun y => c6 y.2.2.2)]
        exact bad _
    · rw [if_neg c5]
      refine ev_gg (by decide) ?_
      refine ev_ite (fun _ => ?_) (fun y => absurd rfl y)
      exact bad1 (fun y => c5 y.2.2.1)
  · refine ev_gg (by decide) ?_
    refine ev_ite (fun z => by omega) (fun _ => ?_)
    simp only [if_neg c]
    exact ev_ret ⟨t1, h1⟩
end TR2
