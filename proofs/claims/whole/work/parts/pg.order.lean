/-! THE REFERENCE: an ORDER is made -/
theorem apM_upd {o : Option (List ND)} {m : Nat} {x : ND} {g : ND → ND} (h : ∀ W, o = some W → W.length = m) : (apM o [x]).map (fun W => W.set m (g (W.getD m nd0))) = apM o [g x] := by
  cases o with
  | none => rfl
  | some W =>
    have e := h W rfl
    subst e
    unfold apM
    dsimp only
    rw [List.length_singleton, List.length_singleton]
    by_cases c : W.length + 1 ≤ 100
    · rw [if_pos c, if_pos c]
      show some ((W ++ [x]).set W.length (g ((W ++ [x]).getD W.length nd0))) = _
      rw [set_end, get_end]
    · rw [if_neg c, if_neg c]
      rfl
theorem md_none {P : Nat → Nat → Prop} {S S1 : GS} {K : Nat} (h : MD S K none) (hf : FC P S S1) (h1 : ¬ P 502 K) (h2 : ¬ P 500 5) : MD S1 K none := by
  obtain ⟨a, m, b, c⟩ := h
  exact ⟨by rw [fc_b hf h2]; exact a, m, b, by rw [fc_i hf h1]; exact c⟩
section ROM
variable {S : GS} {d K F : Nat} {V : List ND}
theorem q_textIsM {k i : Int} {I : Nat} {o : Option (List ND)} {x : ND} {w : List Int} (hd : 1 ≤ d) (hk : k = (K : Int)) (hK : K < 48) (hi : i = (I : Int)) (hI : I ≤ 100) (hl : ∀ W, o = some W → W.length = I) (hx : x.1 = 3) (hx2 : x.2.2.1 = 0) (hW : WD S w) (hw : w.length ≤ 40) (h : MD S K (apM o [x])) : Ev (fun n => f_X12_textIs n d 0 S [k, i]) (fun _ S1 => MD S1 K (apM o [(3, x.2.1, 0, w, x.2.2.2.2)]) ∧ FC (reP K I) S S1) := by
  refine ev_mono (q_textIs hd hk hK hi hI hW hw) (fun _ S1 q => ?_)
  obtain ⟨t1, t2, f1⟩ := q
  refine ⟨?_, fc_mono f1 (fun c j z => by omega)⟩
  cases o with
  | none => exact md_none h f1 (by omega) (by omega)
  | some W =>
    have e := hl W rfl
    subst e
    by_cases c : W.length + 1 ≤ 100
    · have ea : ∀ y : ND, apM (some W) [y] = some (W ++ [y]) := fun y => by
        unfold apM
        dsimp only
        rw [List.length_singleton, if_pos c]
      rw [ea] at h ⊢
      have nx := h.2.2.2.2 x (List.mem_append.mpr (Or.inr (List.mem_singleton.mpr rfl)))
      have cr := (h.2.2.2.1 W.length (by rw [List.length_append, List.length_singleton]; omega)).1
      rw [getD_push, if_neg (by omega), if_pos rfl] at cr
      have sg3 : sgN (3, 1, 0, w, []) = w := by
        unfold sgN
        exact if_neg (fun y => absurd (show (3 : Int) = 2 from y.1) (by decide))
      have i0 : isN x = 0 := by
        unfold isN
        rw [if_neg (by omega), if_neg (by omega)]
      have p0 : pwN x = 0 := by
        unfold pwN
        rw [if_neg (by omega)]
      have nu : NuC S1 (6161 * K + 61 * W.length) (3, 1, 0, w, []) := by
        refine ⟨by rw [sg3]; exact t1, ?_, ?_, fun j hj => ?_⟩
        · rw [fc_i f1 (by omega), cr.2.2.2.2.1, i0]; rfl
        · rw [fc_i f1 (by omega), cr.2.2.2.2.2.1, p0]; rfl
        · rw [sg3] at hj ⊢
          exact t2 j hj
      exact md_val (y := (3, 1, 0, w, [])) h rfl hx.symm ⟨⟨by show (0 : Int) ≤ 3; decide, by show (3 : Int) ≤ 5; decide⟩, nx.2.1, ⟨hw, hW.2.2.2⟩, nx.2.2.2.1, by show (-200 : Int) ≤ 0; decide, by show (0 : Int) ≤ 200; decide⟩ nu f1 (fun j _ _ z => by omega) (by omega) (by omega)
    · have ea : ∀ y : ND, apM (some W) [y] = none := fun y => by
        unfold apM
        dsimp only
        rw [List.length_singleton, if_neg c]
      rw [ea] at h ⊢
      exact md_none h f1 (by omega) (by omega)
/-- a TEXT with its KEY comes -/
theorem q_named {k i a : Int} {I : Nat} {o : Option (List ND)} {x : ND} {q : List Int} (hd : 3 ≤ d) (hk : k = (K : Int)) (hK : K < 48) (hi : i = (I : Int)) (hI : I ≤ 100) (ha : inl a) (e : lw a = q) (hq : q.length ≤ 12) (hl : ∀ W, o = some W → W.length = I) (h : MD S K (apM o [x])) : Ev (fun n => f_X12_named n d 0 S [k, i, a]) (fun _ S1 => MD S1 K (apM o [wQ x q]) ∧ FC (fun c j => reP K I c j ∨ wdP c j) S S1) := by
  refine ev_up (fun n => e_X12_named_0) ?_
  unfold b_X12_named_0
  refine ev_gg (by first | omega | (constructor <;> omega)) ?_
  refine ev_gc (q_says (d := d - 1) ha) (fun _ S1 q1 => ?_)
  obtain ⟨w1, f1⟩ := q1
  rw [e] at w1
  refine ev_gc (q_keyIs (d := d - 1) (by omega) hk hK hi hI w1 hq (mdr_fr h f1 (fun j _ _ => by omega) (by omega) (by omega))) (fun _ S2 q2 => ?_)
  obtain ⟨m2, f2⟩ := q2
  rw [apM_upd (g := fun y => wQ y q) hl] at m2
  exact ev_ret ⟨m2, fc_tr (fc_mono f1 (fun c j z => Or.inr z)) (fc_mono f2 (fun c j z => Or.inl z))⟩
/-- what an ORDER is, loosely -/
theorem mny_ord {op : Nat} {p : List Int} {v : List (List ND)} (h : ∀ t ∈ v, TR t ∧ PZL t) : mny (ordP op p v) = wZ (ndK 5) (2 + v.length) :: (3, 0, 0, sx op, sx 22) :: (3, 0, 0, p, sx 23) :: (v.map (fun t => mny (kyT t (sx 24)))).flatten := by
  have e : ordP op p v = gpN (ndK 5) ([[(3, 1, 0, sx op, sx 22)], [(3, 1, 0, p, sx 23)]] ++ v.map (fun t => kyT t (sx 24))) ([[(3, 1, 0, sx op, sx 22)], [(3, 1, 0, p, sx 23)]] ++ v.map (fun t => kyT t (sx 24))).length := by
    unfold ordP
    rw [List.length_append, List.length_map]
    rfl
  rw [e, mny_gp (by decide) (fun t ht => ?_)]
  · rw [List.map_append, List.flatten_append, List.map_map]
    have l1 : mny [((3, 1, 0, sx op, sx 22) : ND)] = [(3, 0, 0, sx op, sx 22)] := mny_leaf rfl
    have l2 : mny [((3, 1, 0, p, sx 23) : ND)] = [(3, 0, 0, p, sx 23)] := mny_leaf rfl
    rw [List.length_append, List.length_map]
    show wZ (ndK 5) (2 + v.length) :: ((mny [((3, 1, 0, sx op, sx 22) : ND)] ++ (mny [((3, 1, 0, p, sx 23) : ND)] ++ [])) ++ _) = _
    rw [l1, l2]
    rfl
  · rcases List.mem_append.mp ht with z | z
    · rcases List.mem_cons.mp z with y | y
      · subst y; exact ⟨tr_leaf rfl, pzl_one rfl⟩
      · rw [List.mem_singleton] at y
        subst y
        exact ⟨tr_leaf rfl, pzl_one rfl⟩
    · obtain ⟨u, hu, rfl⟩ := List.mem_map.mp z
      exact ⟨tr_ky (h u hu).1, pzl_ky (h u hu).1.2.1 (h u hu).2⟩
/-- a row that is being made has as many VALUES as there can be -/
def okW (o : Option (List ND)) : Prop := ∀ W, o = some W → 1 ≤ W.length ∧ (W.getD 0 nd0).2.1 + 1 ≤ W.length
theorem okW_step {o : Option (List ND)} {B : List ND} (h : okW o) (hB : 1 ≤ B.length) : okW (apM (o.map fun W => W.set 0 (wZ (W.getD 0 nd0) ((W.getD 0 nd0).2.1 + 1))) B) := by
  cases o with
  | none => exact fun W e => by cases e
  | some W =>
    have w1 := h W rfl
    intro W2 e
    unfold apM at e
    dsimp only [Option.map] at e
    by_cases c : (W.set 0 (wZ (W.getD 0 nd0) ((W.getD 0 nd0).2.1 + 1))).length + B.length ≤ 100
    · rw [if_pos c] at e
      have e := Option.some.inj e
      subst e
      have g0 : ((W.set 0 (wZ (W.getD 0 nd0) ((W.getD 0 nd0).2.1 + 1))) ++ B).getD 0 nd0 = wZ (W.getD 0 nd0) ((W.getD 0 nd0).2.1 + 1) := by
        rw [List.getD_eq_getElem?_getD, List.getElem?_append_left (by rw [List.length_set]; omega), ← List.getD_eq_getElem?_getD, getD_set (by omega), if_pos rfl]
      rw [g0, List.length_append, List.length_set]
      refine ⟨by omega, ?_⟩
      show (W.getD 0 nd0).2.1 + 1 + 1 ≤ _
      omega
    · rw [if_neg c] at e
      cases e
theorem os_le {Os : List (List ND)} (h : ∀ t ∈ Os, TR t ∧ PZL t) : Os.length ≤ Os.flatten.length := by
  induction Os with
  | nil => exact Nat.le_refl _
  | cons u E ih =>
    rw [List.length_cons, List.flatten_cons, List.length_append]
    have := ih (fun T hT => h T (List.mem_cons_of_mem _ hT))
    have := (h u List.mem_cons_self).1.2.1
    omega
theorem okW_os {Os : List (List ND)} (h : ∀ t ∈ Os, TR t ∧ PZL t) : okW (some (wZ (ndK 4) Os.length :: (Os.map mny).flatten)) := fun W e => by
  have e := Option.some.inj e
  subst e
  rw [List.length_cons, mny_fl]
  have := os_le h
  refine ⟨by omega, ?_⟩
  show Os.length + 1 ≤ _
  omega
/-- ORDERS so far, in a document that is being made -/
def LsQ (K : Nat) (os : Option (List (List ND))) (S : GS) : Prop := match os with
  | none => S.2.1 500 38 = true ∧ ∃ o, MD S K o ∧ okW o
  | some Os => S.2.1 500 38 = false ∧ MD S K (some (wZ (ndK 4) Os.length :: (Os.map mny).flatten)) ∧ ∀ t ∈ Os, TR t ∧ PZL t
abbrev orP (K : Nat) : Nat → Nat → Prop := fun c j => doP K c j ∨ wdP c j ∨ (c = 500 ∧ j = 38)
theorem ls_len {Os : List (List ND)} : (wZ (ndK 4) Os.length :: (Os.map mny).flatten).length = Os.flatten.length + 1 := by
  rw [List.length_cons, mny_fl]
theorem lsq_fr {P : Nat → Nat → Prop} {S1 : GS} {os : Option (List (List ND))} (h : LsQ K os S) (hf : FC P S S1) (h1 : ∀ j, 6161 * K ≤ j → j < 6161 * K + 6161 → ¬ P 501 j) (h2 : ¬ P 502 K) (h3 : ¬ P 500 5) (h4 : ¬ P 500 38) : LsQ K os S1 := by
  cases os with
  | none =>
    obtain ⟨a, o, b, c⟩ := h
    exact ⟨by rw [fc_b hf h4]; exact a, o, mdr_fr b hf h1 h2 h3, c⟩
  | some Os =>
    obtain ⟨a, b, c⟩ := h
    exact ⟨by rw [fc_b hf h4]; exact a, mdr_fr b hf h1 h2 h3, c⟩
theorem q_ordered {k f v : Int} {t : Nat} {p : List Int} {os : Option (List (List ND))} (hd : 8 ≤ d) (hk : k = (K : Int)) (hK : K < 48) (hf : f = (F : Int)) (hF : F < 48) (hne : F ≠ K) (ht : t < 6) (hp : PaS S p) (hL : LK S F V) (hV : TR V ∧ PZL V) (hv : v = -1 ∨ (0 ≤ v ∧ v < (V.length : Int))) (h : LsQ K os S) : Ev (fun n => f_X12_ordered n d 0 S [k, (t : Int), f, v]) (fun _ S1 => LsQ K (addS os (opsX t) p (vL V v)) S1 ∧ PaS S1 p ∧ FC (orP K) S S1) := by
  subst hk hf
  have l100 := hL.2.1
  have pl := hp.2.1
  have lop : (sx (opsX t)).length ≤ 40 ∧ (sx 22).length ≤ 12 ∧ (sx 23).length ≤ 12 ∧ (sx 24).length ≤ 12 := by
    have h1 : ∀ t, t < 6 → 21 ≤ opsX t ∧ opsX t ≤ 30 := by decide
    have h2 := h1 t ht
    have h3 := sx_ops (opsX t) h2.1 h2.2
    exact ⟨by omega, (sx_ops 22 (by decide) (by decide)).2, (sx_ops 23 (by decide) (by decide)).2, (sx_ops 24 (by decide) (by decide)).2⟩
  have vT : ∀ u ∈ vL V v, TR u ∧ PZL u := fun u hu => by
    unfold vL at hu
    split at hu
    · cases hu
    · rename_i c
      rw [List.mem_singleton] at hu
      subst hu
      exact tr_sg hV.1.1 hV.2 (by omega)
  -- what is made of any row so far
  have p58 : ∀ (o : Option (List ND)) (s0 : Int), (s0 = 0 ∨ s0 = 1) → MD S K o → okW o → Ev (fun n => f_X12_ordered n d 58 S [(K : Int), (t : Int), (F : Int), v, s0]) (fun _ S1 => (MD S1 K (apM (o.map fun W => W.set 0 (wZ (W.getD 0 nd0) ((W.getD 0 nd0).2.1 + 1))) (mny (ordP (opsX t) (p.take 40) (vL V v)))) ∧ S1.2.1 500 38 = decide (s0 = 1)) ∧ PaS S1 p ∧ FC (orP K) S S1) := by
    intro o s0 hs hM hW1
    have f2 : FC (fun c j => c = 500 ∧ j = 38) S (gB S 500 38 (decide (s0 = 1))) := fc_gB ⟨rfl, rfl⟩
    refine ev_up (fun n => e_X12_ordered_58) ?_
    unfold b_X12_ordered_58
    refine ev_gg (hs) ?_
    refine ev_gv ?_
    refine ev_gg (by first | omega | (constructor <;> omega)) ?_
    refine ev_gcr (q_at) ?_
    refine ev_gv ?_
    refine ev_gg (by first | omega | (constructor <;> omega)) ?_
    refine ev_gv ?_
    rw [show ((101 * (K : Int) + 0) * 61 + 3).toNat = 6161 * K + 61 * 0 + 3 by omega]
    refine ev_gv ?_
    refine ev_gv ?_
    have m2 := mdr_fr hM f2 (fun j _ _ => by omega) (by omega) (by omega)
    have f3 : FC (fun c j => (c = 500 ∧ j = 38) ∨ (c = 501 ∧ j = 6161 * K + 61 * 0 + 3)) S (gI (gB S 500 38 (decide (s0 = 1))) 501 (6161 * K + 61 * 0 + 3) ((gB S 500 38 (decide (s0 = 1))).1 501 (6161 * K + 61 * 0 + 3) + 1)) := fc_tr (fc_mono f2 (fun c j z => Or.inl z)) (fc_gI (Or.inr ⟨rfl, rfl⟩))
    have m3 : MD (gI (gB S 500 38 (decide (s0 = 1))) 501 (6161 * K + 61 * 0 + 3) ((gB S 500 38 (decide (s0 = 1))).1 501 (6161 * K + 61 * 0 + 3) + 1)) K (o.map fun W => W.set 0 (wZ (W.getD 0 nd0) ((W.getD 0 nd0).2.1 + 1))) := by
      cases o with
      | none => exact md_gN m2
      | some W =>
        have w1 := hW1 W rfl
        have c0 := (m2.2.2.2.1 0 (by omega)).2
        have w100 := m2.2.2.1
        rw [c0]
        have := md_set3 (K := K) (i := 0) (v := (W.getD 0 nd0).2.1 + 1) m2 (by omega) (by omega)
        exact this
    have e38 : (gI (gB S 500 38 (decide (s0 = 1))) 501 (6161 * K + 61 * 0 + 3) ((gB S 500 38 (decide (s0 = 1))).1 501 (6161 * K + 61 * 0 + 3) + 1)).2.1 500 38 = decide (s0 = 1) := by
      show (gB S 500 38 (decide (s0 = 1))).2.1 500 38 = _
      exact gB_a
    generalize gI (gB S 500 38 (decide (s0 = 1))) 501 (6161 * K + 61 * 0 + 3) ((gB S 500 38 (decide (s0 = 1))).1 501 (6161 * K + 61 * 0 + 3) + 1) = S3 at f3 m3 e38 ⊢
    generalize (o.map fun W => W.set 0 (wZ (W.getD 0 nd0) ((W.getD 0 nd0).2.1 + 1))) = o3 at m3 ⊢
    obtain ⟨n3, n31, n32, n33⟩ := md_n m3
    refine ev_gc (q_added (d := d - 1) (K := K) (by omega) rfl hK (by decide) m3) (fun y S4 q4 => ?_)
    obtain ⟨m4, f4, ye⟩ := q4
    rw [n32] at ye
    subst ye
    refine ev_gcr (q_at) ?_
    refine ev_gv ?_
    have vi : inr v := by constructor <;> omega
    have p108 : ∀ s1 : Int, s1 = ((2 + (vL V v).length : Nat) : Int) → Ev (fun n => f_X12_ordered n d 108 S4 [(K : Int), (t : Int), (F : Int), v, s1, (101 * (K : Int) + (n3 : Int)) * 61 + 3]) (fun _ S1 => (MD S1 K (apM o3 (mny (ordP (opsX t) (p.take 40) (vL V v)))) ∧ S1.2.1 500 38 = decide (s0 = 1)) ∧ PaS S1 p ∧ FC (orP K) S S1) := by
      intro s1 hs1
      subst hs1
      have vl1 : (vL V v).length ≤ 1 := by
        unfold vL
        split
        · exact Nat.zero_le _
        · exact Nat.le_refl _
      refine ev_up (fun n => e_X12_ordered_108) ?_
      unfold b_X12_ordered_108
      refine ev_gg (by first | omega | (constructor <;> omega)) ?_
      refine ev_gv ?_
      rw [show ((101 * (K : Int) + (n3 : Int)) * 61 + 3).toNat = 6161 * K + 61 * n3 + 3 by omega]
      have m5 := md_set3 (K := K) (i := n3) (v := 2 + (vL V v).length) m4 (by omega) n31
      rw [apM_set n33] at m5
      have f5 : FC (fun c j => c = 501 ∧ j = 6161 * K + 61 * n3 + 3) S4 (gI S4 501 (6161 * K + 61 * n3 + 3) ((2 + (vL V v).length : Nat) : Int)) := fc_gI ⟨rfl, rfl⟩
      generalize gI S4 501 (6161 * K + 61 * n3 + 3) ((2 + (vL V v).length : Nat) : Int) = S5 at m5 f5 ⊢
      have x5 : wZ (ndM 5) (2 + (vL V v).length) = wZ (ndK 5) (2 + (vL V v).length) := rfl
      rw [x5] at m5
      generalize hA : apM o3 [wZ (ndK 5) (2 + (vL V v).length)] = o5 at m5
      obtain ⟨n5, n51, n52, n53⟩ := md_n m5
      refine ev_gg (by first | omega | (constructor <;> omega)) ?_
      refine ev_gc (q_added (d := d - 1) (K := K) (by omega) rfl hK (by decide) m5) (fun y S6 q6 => ?_)
      obtain ⟨m6, f6, ye⟩ := q6
      rw [n52] at ye
      subst ye
      refine ev_gc (q_named (d := d - 1) (K := K) (I := n5) (o := o5) (x := ndM 3) (q := sx 22) (by omega) rfl hK rfl n51 (by decide) lw_op lop.2.1 n53 m6) (fun _ S9 q9 => ?_)
      obtain ⟨m9, f9⟩ := q9
      refine ev_gg (by first | omega | (constructor <;> omega)) ?_
      refine ev_gv ?_
      rw [Int.toNat_natCast]
      have ko := lw_ops t ht
      refine ev_gc (q_says (d := d - 1) ko.2) (fun _ S15 q15 => ?_)
      obtain ⟨w15, f15⟩ := q15
      rw [ko.1] at w15
      refine ev_gc (q_textIsM (d := d - 1) (K := K) (I := n5) (o := o5) (x := wQ (ndM 3) (sx 22)) (by omega) rfl hK rfl n51 n53 rfl rfl w15 lop.1 (mdr_fr m9 f15 (fun j _ _ => by omega) (by omega) (by omega))) (fun _ S18 q18 => ?_)
      obtain ⟨m18, f18⟩ := q18
      have x18 : ((3, (wQ (ndM 3) (sx 22)).2.1, 0, sx (opsX t), (wQ (ndM 3) (sx 22)).2.2.2.2) : ND) = (3, 0, 0, sx (opsX t), sx 22) := rfl
      rw [x18] at m18
      generalize hB : apM o5 [((3, 0, 0, sx (opsX t), sx 22) : ND)] = o18 at m18
      obtain ⟨n18, n181, n182, n183⟩ := md_n m18
      refine ev_gc (q_added (d := d - 1) (K := K) (by omega) rfl hK (by decide) m18) (fun y S21 q21 => ?_)
      obtain ⟨m21, f21, ye⟩ := q21
      rw [n182] at ye
      subst ye
      refine ev_gc (q_named (d := d - 1) (K := K) (I := n18) (o := o18) (x := ndM 3) (q := sx 23) (by omega) rfl hK rfl n181 (by decide) lw_path lop.2.2.1 n183 m21) (fun _ S24 q24 => ?_)
      obtain ⟨m24, f24⟩ := q24
      have f424 : FC (fun c j => doP K c j ∨ wdP c j) S4 S24 := fc_tr (fc_mono f5 (fun c j z => by omega)) (fc_tr (fc_mono f6 (fun c j z => by omega)) (fc_tr (fc_mono f9 (fun c j z => by omega)) (fc_tr (fc_mono f15 (fun c j z => by omega)) (fc_tr (fc_mono f18 (fun c j z => by omega)) (fc_tr (fc_mono f21 (fun c j z => by omega)) (fc_mono f24 (fun c j z => by omega)))))))
      have f024 : FC (orP K) S S24 := fc_tr (fc_mono f3 (fun c j z => by omega)) (fc_tr (fc_mono f4 (fun c j z => by omega)) (fc_mono f424 (fun c j z => by omega)))
      have f324 : FC (fun c j => doP K c j ∨ wdP c j) S3 S24 := fc_tr (fc_mono f4 (fun c j z => by omega)) f424
      have pa24 := pa_fr hp f024 (by omega) (fun j => by omega)
      have e38' : S24.2.1 500 38 = decide (s0 = 1) := by rw [fc_b f324 (by omega)]; exact e38
      have L24 : LK S24 F V := lk_fr hL f024 (fun j _ _ => by omega) (by omega)
      -- the path becomes the word
      have tl : (p.take 40).length = min 40 p.length := List.length_take
      have lp : ∀ (u i : Nat) (S2 : GS), i + u = (p.take 40).length → FC wdP S24 S2 → S2.1 500 13 = ((p.take 40).length : Int) → (∀ j, j < i → S2.1 507 j = (p.take 40).getD j 0) → Ev (fun n => f_X12_ordered n d 187 S2 [(K : Int), (F : Int), v, (n18 : Int), (i : Int)]) (fun _ S1 => (MD S1 K (apM o3 (mny (ordP (opsX t) (p.take 40) (vL V v)))) ∧ S1.2.1 500 38 = decide (s0 = 1)) ∧ PaS S1 p ∧ FC (orP K) S S1) := by
        intro u
        induction u with
        | zero =>
          intro i S2 hi f2' c13 c7
          have pr : ∀ y ∈ p.take 40, 0 ≤ y ∧ y < 256 := fun y hy => hp.2.2.2 y (List.mem_of_mem_take hy)
          have wd : WD S2 (p.take 40) := ⟨c13, by omega, fun j hj => c7 j (by omega), pr⟩
          refine ev_up (fun n => e_X12_ordered_187) ?_
          unfold b_X12_ordered_187
          refine ev_gv ?_
          rw [c13]
          refine ev_gg (by first | omega | (constructor <;> omega)) ?_
          refine ev_gg (by first | omega | (constructor <;> omega)) ?_
          refine ev_ite (fun _ => ?_) (fun z => by omega)
          refine ev_gg (by first | omega | (constructor <;> omega)) ?_
          refine ev_gc (q_textIsM (d := d - 1) (K := K) (I := n18) (o := o18) (x := wQ (ndM 3) (sx 23)) (by omega) rfl hK rfl n181 n183 rfl rfl wd (by omega) (mdr_fr m24 f2' (fun j _ _ => by omega) (by omega) (by omega))) (fun _ S25 q25 => ?_)
          obtain ⟨m25, f25⟩ := q25
          have x25 : ((3, (wQ (ndM 3) (sx 23)).2.1, 0, p.take 40, (wQ (ndM 3) (sx 23)).2.2.2.2) : ND) = (3, 0, 0, p.take 40, sx 23) := rfl
          rw [x25] at m25
          have f025 : FC (orP K) S S25 := fc_tr f024 (fc_tr (fc_mono f2' (fun c j z => by omega)) (fc_mono f25 (fun c j z => by omega)))
          have pa25 := pa_fr hp f025 (by omega) (fun j => by omega)
          have e25 : S25.2.1 500 38 = decide (s0 = 1) := by rw [fc_b f25 (by omega), fc_b f2' (by omega)]; exact e38'
          refine ev_gg (vi) ?_
          refine ev_ite (fun z => ?_) (fun z => ?_)
          · have ev : vL V v = [] := by unfold vL; rw [if_pos z]
            have eo := mny_ord (op := opsX t) (p := p.take 40) vT
            rw [eo, ev]
            rw [ev] at hA
            refine ev_ret ⟨⟨?_, e25⟩, pa25, f025⟩
            show MD S25 K (apM o3 ([wZ (ndK 5) (2 + ([] : List (List ND)).length)] ++ ([(3, 0, 0, sx (opsX t), sx 22)] ++ [(3, 0, 0, p.take 40, sx 23)])))
            rw [← apM_app, ← apM_app, hA, hB]
            exact m25
          · have vn : 0 ≤ v ∧ v < (V.length : Int) := by omega
            have ev : vL V v = [sg V v.toNat] := by unfold vL; rw [if_neg z]
            refine ev_gc (q_says (d := d - 1) (a := 8530218420677902336) (by decide)) (fun _ S26 q26 => ?_)
            obtain ⟨w26, f26⟩ := q26
            rw [lw_value] at w26
            have L26 : LK S26 F V := lk_fr (lk_fr hL f025 (fun j _ _ => by omega) (by omega)) f26 (fun j _ _ => by omega) (by omega)
            refine ev_gc (q_brings (d := d - 1) (K := K) (F := F) (I := v.toNat) (M := 1) (w := sx 24) (by omega) rfl hK rfl hF (by omega) rfl (by decide) hne L26 hV (by omega) (fun _ => ⟨w26, lop.2.2.2⟩) (mdr_fr m25 f26 (fun j _ _ => by omega) (by omega) (by omega))) (fun _ S27 q27 => ?_)
            obtain ⟨m27, f27⟩ := q27
            rw [if_pos rfl] at m27
            have f027 : FC (orP K) S S27 := fc_tr f025 (fc_tr (fc_mono f26 (fun c j z => by omega)) (fc_mono f27 (fun c j z => by omega)))
            have eo := mny_ord (op := opsX t) (p := p.take 40) vT
            rw [eo, ev]
            rw [ev] at hA
            refine ev_ret ⟨⟨?_, by rw [fc_b f27 (by omega), fc_b f26 (by omega)]; exact e25⟩, pa_fr hp f027 (by omega) (fun j => by omega), f027⟩
            have es : ([sg V v.toNat].map (fun t => mny (kyT t (sx 24)))).flatten = mny (kyT (sg V v.toNat) (sx 24)) := by simp
            rw [es]
            show MD S27 K (apM o3 ([wZ (ndK 5) (2 + [sg V v.toNat].length)] ++ ([(3, 0, 0, sx (opsX t), sx 22)] ++ ([(3, 0, 0, p.take 40, sx 23)] ++ mny (kyT (sg V v.toNat) (sx 24))))))
            rw [← apM_app, ← apM_app, ← apM_app, hA, hB]
            exact m27
        | succ u ih =>
          intro i S2 hi f2' c13 c7
          have pi : (p.take 40).getD i 0 = p.getD i 0 := by
            rw [List.getD_eq_getElem?_getD, List.getD_eq_getElem?_getD, List.getElem?_take_of_lt (by omega)]
          refine ev_up (fun n => e_X12_ordered_187) ?_
          unfold b_X12_ordered_187
          refine ev_gv ?_
          rw [c13]
          refine ev_gg (by first | omega | (constructor <;> omega)) ?_
          refine ev_gg (by first | omega | (constructor <;> omega)) ?_
          refine ev_ite (fun z => by omega) (fun _ => ?_)
          refine ev_gg (by first | omega | (constructor <;> omega)) ?_
          refine ev_gv ?_
          rw [Int.toNat_natCast, fc_i f2' (by omega), pa24.2.2.1 i (by omega)]
          refine ev_gv ?_
          refine ev_gv ?_
          rw [show (i : Int) + 1 = ((i + 1 : Nat) : Int) by omega]
          have fb : FC (fun c j => c = 507) S2 (gI S2 507 i (p.getD i 0)) := fc_gI rfl
          refine ih (i + 1) _ (by omega) (fc_tr f2' (fc_mono fb (fun c j z => by omega))) (by rw [fc_i fb (by omega)]; exact c13) (fun j hj => ?_)
          by_cases e : j = i
          · subst e; rw [gI_a]; exact pi.symm
          · rw [gI_k e]; exact c7 j (by omega)
      have go : ∀ x : Int, x = ((p.take 40).length : Int) → Ev (fun n => f_X12_ordered n d 187 (gI S24 500 13 x) [(K : Int), (F : Int), v, (n18 : Int), 0]) (fun _ S1 => (MD S1 K (apM o3 (mny (ordP (opsX t) (p.take 40) (vL V v)))) ∧ S1.2.1 500 38 = decide (s0 = 1)) ∧ PaS S1 p ∧ FC (orP K) S S1) := by
        intro x hx
        exact lp (p.take 40).length 0 _ (by omega) (fc_gI (Or.inl ⟨rfl, rfl⟩)) (by rw [gI_a]; exact hx) (fun j hj => absurd hj (Nat.not_lt_zero j))
      refine ev_gv ?_
      rw [pa24.1]
      refine ev_gg (by first | omega | (constructor <;> omega)) ?_
      refine ev_ite (fun z => ?_) (fun z => ?_)
      · refine ev_gv ?_
        refine ev_gv ?_
        exact go _ (by omega)
      · refine ev_gv ?_
        exact go _ (by omega)
    refine ev_gg (vi) ?_
    refine ev_ite (fun z => ?_) (fun z => ?_)
    · refine p108 3 ?_
      unfold vL
      rw [if_neg z]
      rfl
    · refine p108 2 ?_
      unfold vL
      rw [if_pos (by omega)]
      rfl
  have p18 : ∀ s0 : Int, s0 = ((vL V v).flatten.length : Int) → Ev (fun n => f_X12_ordered n d 18 S [(K : Int), (t : Int), (F : Int), v, s0]) (fun _ S1 => LsQ K (addS os (opsX t) p (vL V v)) S1 ∧ PaS S1 p ∧ FC (orP K) S S1) := by
    intro s0 hs0
    have vfl : (vL V v).flatten.length ≤ 100 := by
      unfold vL
      split
      · exact Nat.zero_le _
      · rename_i c
        have sl := sg_len hV.1.1 (i := v.toNat) (by omega)
        have := hV.1.1.1 v.toNat (by omega)
        rw [List.flatten_cons, List.flatten_nil, List.append_nil, sl]
        omega
    cases os with
    | none =>
      obtain ⟨a, o, hM, wl⟩ := h
      refine ev_up (fun n => e_X12_ordered_18) ?_
      unfold b_X12_ordered_18
      refine ev_gv ?_
      rw [a]
      have bt : bi true = 1 := rfl
      rw [bt]
      refine ev_gg (by decide) ?_
      refine ev_ite (fun _ => ?_) (fun z => by omega)
      refine ev_mono (p58 o 1 (Or.inr rfl) hM wl) (fun _ S1 q => ?_)
      exact ⟨⟨q.1.2, _, q.1.1, okW_step wl (by rw [mny_len]; exact (ordP_tr vT).1.2.1)⟩, q.2⟩
    | some Os =>
      obtain ⟨a, hM, hT⟩ := h
      have ml := hM.2.1
      rw [ls_len] at ml
      have ml100 := hM.2.2.1
      rw [ls_len] at ml100
      have wl := okW_os hT
      have bad : ¬ (p.length ≤ 40 ∧ Os.flatten.length + 1 + (3 + (vL V v).flatten.length) ≤ 100) → Ev (fun n => f_X12_ordered n d 58 S [(K : Int), (t : Int), (F : Int), v, 1]) (fun _ S1 => LsQ K (addS (some Os) (opsX t) p (vL V v)) S1 ∧ PaS S1 p ∧ FC (orP K) S S1) := fun nb => by
        refine ev_mono (p58 _ 1 (Or.inr rfl) hM wl) (fun _ S1 q => ?_)
        unfold addS
        dsimp only
        rw [if_neg nb]
        exact ⟨⟨q.1.2, _, q.1.1, okW_step wl (by rw [mny_len]; exact (ordP_tr vT).1.2.1)⟩, q.2⟩
      refine ev_up (fun n => e_X12_ordered_18) ?_
      unfold b_X12_ordered_18
      refine ev_gv ?_
      rw [a]
      have bt : bi false = 0 := rfl
      rw [bt]
      refine ev_gg (by decide) ?_
      refine ev_ite (fun z => by omega) (fun _ => ?_)
      refine ev_gv ?_
      rw [hp.1]
      refine ev_gg (by first | omega | (constructor <;> omega)) ?_
      refine ev_ite (fun z => bad (fun w => by omega)) (fun z => ?_)
      refine ev_gg (by first | omega | (constructor <;> omega)) ?_
      refine ev_gv ?_
      rw [Int.toNat_natCast, ml]
      refine ev_gv ?_
      refine ev_gv ?_
      refine ev_gg (by first | omega | (constructor <;> omega)) ?_
      refine ev_ite (fun z2 => ?_) (fun z2 => bad (fun w => by omega))
      refine ev_mono (p58 _ 0 (Or.inl rfl) hM wl) (fun _ S1 q => ?_)
      have ok : p.length ≤ 40 ∧ Os.flatten.length + 1 + (3 + (vL V v).flatten.length) ≤ 100 := by omega
      unfold addS
      dsimp only
      rw [if_pos ok]
      refine ⟨⟨q.1.2, ?_, snoc_all hT (ordP_tr vT)⟩, q.2⟩
      have m1 := q.1.1
      rw [List.take_of_length_le ok.1] at m1
      have ol := ordP_len (op := opsX t) (p := p) (v := vL V v) (fun u hu => (vT u hu).1.2.1)
      have e1 : apM ((some (wZ (ndK 4) Os.length :: (Os.map mny).flatten)).map fun W => W.set 0 (wZ (W.getD 0 nd0) ((W.getD 0 nd0).2.1 + 1))) (mny (ordP (opsX t) p (vL V v))) = some (wZ (ndK 4) (Os ++ [ordP (opsX t) p (vL V v)]).length :: ((Os ++ [ordP (opsX t) p (vL V v)]).map mny).flatten) := by
        show apM (some (wZ (ndK 4) (Os.length + 1) :: (Os.map mny).flatten)) (mny (ordP (opsX t) p (vL V v))) = _
        unfold apM
        dsimp only
        rw [List.length_cons, mny_fl, mny_len, ol, if_pos (by omega), List.length_append, List.map_append, List.flatten_append]
        simp
      rw [e1] at m1
      exact m1
  have vi : inr v := by constructor <;> omega
  refine ev_up (fun n => e_X12_ordered_0) ?_
  unfold b_X12_ordered_0
  refine ev_gg (vi) ?_
  refine ev_ite (fun z => ?_) (fun z => ?_)
  · refine ev_gg (by first | omega | (constructor <;> omega)) ?_
    have vn : 0 ≤ v ∧ v < (V.length : Int) := by omega
    refine ev_gcr (q_sizeL (d := d - 1) (K := F) (I := v.toNat) (V := V) (by omega) rfl hF (by omega) hL (by omega)) ?_
    refine p18 _ ?_
    unfold vL
    rw [if_neg z]
    have sl := sg_len hV.1.1 (i := v.toNat) (by omega)
    simp [sl]
  · refine p18 0 ?_
    unfold vL
    rw [if_pos (by omega)]
    rfl
end ROM
