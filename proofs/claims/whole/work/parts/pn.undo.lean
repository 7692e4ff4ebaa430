/-! THE REFERENCE turns an ORDER round -/
abbrev tuP : Nat → Nat → Prop := fun c j => orP 41 c j ∨ pnP c j ∨ dsP c j
theorem tu_or {c j : Nat} (z : orP 41 c j) : tuP c j := Or.inl z
theorem tu_pn {c j : Nat} (z : pnP c j) : tuP c j := Or.inr (Or.inl z)
theorem tu_ds {c j : Nat} (z : dsP c j) : tuP c j := Or.inr (Or.inr z)
theorem tu_pl {c j : Nat} (z : plP c j) : tuP c j := tu_ds (ds_pl z)
theorem tu_29 {c j : Nat} (z : c = 500 ∧ j = 29) : tuP c j := tu_pn (Or.inr (Or.inr (Or.inl z)))
abbrev upP : Nat → Nat → Prop := fun c j => orP 41 c j ∨ pnP c j ∨ plP c j
theorem up_tu {c j : Nat} (z : upP c j) : tuP c j := z.elim tu_or (fun y => y.elim tu_pn tu_pl)
theorem ldF_snoc {l : List Int} {V : List ND} : ∀ (f i : Nat) (n : Int), ldF l V (f + 1) i n = if ldF l V f i n = -1 then -1 else stpT V (ldF l V f i n) (wdA l (i + f))
  | 0, i, n => rfl
  | f + 1, i, n => by
    have e1 : ldF l V (f + 1 + 1) i n = if n = -1 then -1 else ldF l V (f + 1) (i + 1) (stpT V n (wdA l i)) := rfl
    have e2 : ldF l V (f + 1) i n = if n = -1 then -1 else ldF l V f (i + 1) (stpT V n (wdA l i)) := rfl
    rw [e1, e2]
    by_cases c : n = -1
    · rw [if_pos c, if_pos c, if_pos rfl]
    · rw [if_neg c, if_neg c, ldF_snoc f (i + 1) (stpT V n (wdA l i)), show i + 1 + f = i + (f + 1) by omega]
theorem ldT_last {l : List Int} {V : List ND} (h : 1 ≤ nW l) : ldT l V (nW l) = if ldT l V (nW l - 1) = -1 then -1 else stpT V (ldT l V (nW l - 1)) (wdA l (nW l - 1)) := by
  unfold ldT
  rw [show min (nW l) (nW l) = (nW l - 1) + 1 by omega, show min (nW l - 1) (nW l) = nW l - 1 by omega, ldF_snoc, Nat.zero_add]
theorem aim_at {l : List Int} {V : List ND} {z : Bool × Nat × Nat × Nat} (h1 : 1 ≤ nW l) (hz : aimS l V = some z) : (kdI V (ldT l V (nW l - 1)) = 5 ∧ ((vLk V (ldT l V (nW l - 1)) (wdA l (nW l - 1)) = -1 ∧ z.1 = false ∧ z.2.1 = (ldT l V (nW l - 1)).toNat) ∨ (vLk V (ldT l V (nW l - 1)) (wdA l (nW l - 1)) ≠ -1 ∧ z.1 = true ∧ z.2.2.1 = (vLk V (ldT l V (nW l - 1)) (wdA l (nW l - 1))).toNat))) ∨ (kdI V (ldT l V (nW l - 1)) = 4 ∧ z.1 = false ∧ z.2.1 = (ldT l V (nW l - 1)).toNat) := by
  unfold aimS at hz
  rw [if_neg (by omega)] at hz
  by_cases k5 : kdI V (ldT l V (nW l - 1)) = 5
  · rw [if_pos k5] at hz
    left
    refine ⟨k5, ?_⟩
    by_cases kv : vLk V (ldT l V (nW l - 1)) (wdA l (nW l - 1)) = -1
    · rw [if_pos kv] at hz
      by_cases k12 : (wdA l (nW l - 1)).length ≤ 12
      · rw [if_pos k12] at hz
        have e := Option.some.inj hz
        subst e
        exact Or.inl ⟨kv, rfl, rfl⟩
      · rw [if_neg k12] at hz; cases hz
    · rw [if_neg kv] at hz
      have e := Option.some.inj hz
      subst e
      exact Or.inr ⟨kv, rfl, rfl⟩
  · rw [if_neg k5] at hz
    by_cases k4 : kdI V (ldT l V (nW l - 1)) = 4
    · rw [if_pos k4] at hz
      by_cases kp : 0 ≤ pRow l V (ldT l V (nW l - 1)).toNat ∧ pRow l V (ldT l V (nW l - 1)).toNat ≤ ((kids V (ldT l V (nW l - 1)).toNat).length : Int)
      · rw [if_pos kp] at hz
        have e := Option.some.inj hz
        subst e
        exact Or.inr ⟨k4, rfl, rfl⟩
      · rw [if_neg kp] at hz; cases hz
    · rw [if_neg k4] at hz; cases hz
theorem kdI_v {V : List ND} {i k : Int} (h : kdI V i = k) (hk : 0 ≤ k) : 0 ≤ i ∧ i < (V.length : Int) ∧ nk V i.toNat = k := by
  unfold kdI at h
  by_cases c : 0 ≤ i ∧ i < (V.length : Int)
  · rw [if_pos c] at h
    exact ⟨c.1, c.2, h⟩
  · rw [if_neg c] at h
    omega
section RUN
variable {S : GS} {d K : Nat} {U V : List ND} {l : List Int} {os : Option (List (List ND))}
theorem adL_app {X Y : List ORD} : adL (X ++ Y) os = adL Y (adL X os) := by
  unfold adL
  rw [List.foldl_append]
theorem adL_1 {o : ORD} : adL [o] os = addS os o.1 o.2.1 o.2.2 := rfl
theorem vL_no {V : List ND} : vL V (-1) = [] := rfl
/-- what is at the end of a path -/
theorem pa_at {S : GS} {l : List Int} (h : PaS S l) {i : Nat} (hi : i < l.length) : S.1 518 i = l.getD i 0 ∧ 0 ≤ l.getD i 0 ∧ l.getD i 0 < 256 := ⟨h.2.2.1 i hi, h.2.2.2 _ (getD_in hi)⟩
theorem drop_45 {l : List Int} {A : Nat} (h : l.length = A + 1) : l.drop A = [45] ↔ l.getD A 0 = 45 := by
  have hl : A < l.length := by omega
  have e : l.drop A = [l.getD A 0] := by
    rw [List.drop_eq_getElem_cons hl, List.drop_eq_nil_of_le (by omega), List.getD_eq_getElem?_getD, List.getElem?_eq_getElem hl]
    rfl
  rw [e]
  constructor
  · intro z
    exact (List.cons.inj z).1
  · intro z
    rw [z]
theorem q_undoesPut {k : Int} {z : Bool × Nat × Nat × Nat} (hd : 10 ≤ d) (hk : k = (K : Int)) (hK : K < 48) (hne : K ≠ 41) (hL : LK S K V) (hV : DOC V) (hl : PaS S l) (hl40 : l.length ≤ 40) (hp : isP l) (hz : aimS l V = some z) (h : LsQ 41 os S) : Ev (fun n => f_X12_undoesPut n d 0 S [k]) (fun _ S1 => LsQ 41 (adL (puL l V) os) S1 ∧ FC upP S S1) := by
  subst hk
  have hV0 := hV.1.1
  have lv := hV.2.2.1
  have l1 := hV0.1.2.1
  have ok := aimS_ok hV0 hz
  have epu : puL l V = if z.1 then [(21, l, [sg V z.2.2.1])] else [(25, apT l V z, [])] := by
    unfold puL
    rw [hz]
  have ord : ∀ (S1 : GS) (p : List Int) (t : Nat) (v : Int), FC (fun c j => plP c j ∨ pnP c j) S S1 → PaS S1 p → t < 6 → (v = -1 ∨ (0 ≤ v ∧ v < (V.length : Int))) → adL (puL l V) os = addS os (opsX t) p (vL V v) → Ev (fun n => gc (f_X12_ordered n (d - 1) 0 S1 [41, (t : Int), (K : Int), v]) fun _ S_7 => some (0, S_7)) (fun _ S1 => LsQ 41 (adL (puL l V) os) S1 ∧ FC upP S S1) := by
    intro S1 p t v f1 pa ht hv e
    have i1 : ∀ c j, (plP c j ∨ pnP c j) → upP c j := fun c j z => z.elim (fun y => Or.inr (Or.inr y)) (fun y => Or.inr (Or.inl y))
    refine ev_gc (q_ordered (d := d - 1) (K := 41) (F := K) (V := V) (by omega) rfl (by decide) rfl hK hne ht pa (lk_fr hL f1 (fun j _ _ => by omega) (by omega)) hV0 hv (lsq_fr h f1 (fun j _ _ => by omega) (by omega) (by omega) (by omega))) (fun _ S2 q2 => ?_)
    rw [e]
    exact ev_ret ⟨q2.1, fc_tr (fc_mono f1 i1) (fc_mono q2.2.2 (fun c j z => Or.inl z))⟩
  by_cases ln : l = []
  · -- the whole
    subst ln
    have e0 : aimS [] V = some (true, 0, 0, 0) := rfl
    rw [e0] at hz
    have ez := Option.some.inj hz
    subst ez
    have ea : adL (puL [] V) os = addS os (opsX 2) [] (vL V 0) := by
      rw [epu, if_pos rfl, adL_1]
      rfl
    refine ev_up (fun n => e_X12_undoesPut_0) ?_
    unfold b_X12_undoesPut_0
    refine ev_gv ?_
    rw [hl.1]
    refine ev_gg (by decide) ?_
    refine ev_ite (fun z => absurd rfl z) (fun _ => ?_)
    refine ev_up (fun n => e_X12_undoesPut_20) ?_
    unfold b_X12_undoesPut_20
    refine ev_gv ?_
    rw [hl.1]
    refine ev_gg (by decide) ?_
    refine ev_ite (fun z => absurd rfl z) (fun _ => ?_)
    refine ev_up (fun n => e_X12_undoesPut_36) ?_
    unfold b_X12_undoesPut_36
    refine ev_gv ?_
    rw [hl.1]
    refine ev_gg (by decide) ?_
    refine ev_ite (fun z => absurd rfl z) (fun _ => ?_)
    refine ev_up (fun n => e_X12_undoesPut_54) ?_
    unfold b_X12_undoesPut_54
    refine ev_gv ?_
    rw [hl.1]
    refine ev_gg (by decide) ?_
    refine ev_ite (fun _ => ?_) (fun z => absurd rfl z)
    refine ev_gg (by first | omega | (constructor <;> omega)) ?_
    exact ord S [] 2 0 fc_rf hl (by decide) (Or.inr ⟨Int.le_refl 0, by omega⟩) ea
  · have n1 := nW_pos hp ln
    have lp : 1 ≤ l.length := List.length_pos_iff.mpr ln
    have ll : (l.length : Int) ≠ 0 := by omega
    have o1 := ld_ok (l := l) hV0 (nW l)
    have o2 := ld_ok (l := l) hV0 (nW l - 1)
    have st := stA_r (l := l) ((nW l - 1 : Nat) : Int)
    have e1 : ((nW l - 1 : Nat) : Int) = (nW l : Int) - 1 := by omega
    have sn := stA_next (l := l) (k := nW l - 1) (by omega)
    -- where it leads
    have ls := ldT_last (V := V) n1
    obtain ⟨o, eo⟩ : ∃ o, ldT l V (nW l - 1) = o := ⟨_, rfl⟩
    have am := aim_at n1 hz
    rw [eo] at o2 ls am
    have ov : 0 ≤ o ∧ o < (V.length : Int) := by
      rcases am with y | y
      · have := kdI_v y.1 (by decide); omega
      · have := kdI_v y.1 (by decide); omega
    obtain ⟨O, rfl⟩ : ∃ O : Nat, o = (O : Int) := ⟨o.toNat, by omega⟩
    have Ol : O < V.length := by omega
    rw [if_neg (by omega)] at ls
    rw [kdI_n Ol] at am
    rw [Int.toNat_natCast] at am
    have nr := hL.2.2.2 _ (nd_mem Ol)
    have nr1 : 0 ≤ nk V O ∧ nk V O ≤ 5 := ⟨nr.1, nr.2.1⟩
    obtain ⟨x2, ex2⟩ : ∃ x2, ldT l V (nW l) = x2 := ⟨_, rfl⟩
    rw [ex2] at o1 ls
    have x2i : inr x2 := by constructor <;> omega
    rw [e1] at st sn
    have p89 : ∀ S1, FC plP S S1 → PaS S1 l → z.1 = false → z.2.1 = O → Ev (fun n => f_X12_undoesPut n d 89 S1 [(K : Int), stA l ((nW l : Int) - 1) - 1, (O : Int)]) (fun _ S1 => LsQ 41 (adL (puL l V) os) S1 ∧ FC upP S S1) := by
      intro S1 f1 pa z1 zO
      have L1 := lk_fr hL f1 (fun j _ _ => by omega) (by omega)
      have ai := apT_is hV0 hz z1
      rw [zO] at ai
      have sam : ¬ (nk V O = 4 ∧ l.drop (stA l ((nW l : Int) - 1)).toNat = [45]) → Ev (fun n => gc (f_X12_ordered n (d - 1) 0 S1 [41, 1, (K : Int), -1]) fun _ S_7 => some (0, S_7)) (fun _ S1 => LsQ 41 (adL (puL l V) os) S1 ∧ FC upP S S1) := by
        intro nn
        rw [if_neg nn] at ai
        refine ord S1 l 1 (-1) (fc_mono f1 (fun c j z => Or.inl z)) pa (by decide) (Or.inl rfl) ?_
        rw [epu, z1, if_neg (by decide), adL_1, ai]
        rfl
      refine ev_up (fun n => e_X12_undoesPut_89) ?_
      unfold b_X12_undoesPut_89
      refine ev_gg (by first | omega | (constructor <;> omega)) ?_
      refine ev_gcr (q_kindL (d := d - 1) (K := K) (I := O) (V := V) (by omega) rfl hK rfl L1 Ol) ?_
      refine ev_gg (by first | omega | (constructor <;> omega)) ?_
      refine ev_ite (fun y => sam (fun w => y w.1)) (fun y => ?_)
      refine ev_gv ?_
      rw [pa.1]
      refine ev_gv ?_
      refine ev_gg (by first | omega | (constructor <;> omega)) ?_
      refine ev_gg (by first | omega | (constructor <;> omega)) ?_
      refine ev_ite (fun y2 => ?_) (fun y2 => ?_)
      · refine sam (fun w => ?_)
        have := congrArg List.length w.2
        rw [List.length_drop, List.length_singleton] at this
        omega
      · have hA : l.length = (stA l ((nW l : Int) - 1)).toNat + 1 := by omega
        have d45 := drop_45 hA
        have ca := pa_at pa (i := (stA l ((nW l : Int) - 1)).toNat) (by omega)
        refine ev_gv ?_
        refine ev_gg (by first | omega | (constructor <;> omega)) ?_
        refine ev_gv ?_
        rw [show (stA l ((nW l : Int) - 1) - 1 + 1).toNat = (stA l ((nW l : Int) - 1)).toNat by omega, ca.1]
        refine ev_gg (by first | omega | (constructor <;> omega)) ?_
        refine ev_ite (fun y3 => sam (fun w => y3 (d45.mp w.2))) (fun y3 => ?_)
        have d1 : l.drop (stA l ((nW l : Int) - 1)).toNat = [45] := d45.mpr (by omega)
        have k4 : nk V O = 4 := by omega
        rw [if_pos ⟨k4, d1⟩] at ai
        refine ev_gv ?_
        obtain ⟨A, hAA⟩ : ∃ A : Nat, stA l ((nW l : Int) - 1) = ((A + 1 : Nat) : Int) := ⟨(stA l ((nW l : Int) - 1)).toNat - 1, by omega⟩
        rw [hAA, Int.toNat_natCast] at ai
        rw [hAA] at sn hA ⊢
        rw [Int.toNat_natCast] at sn hA
        rw [show ((A + 1 : Nat) : Int) - 1 = (A : Int) by omega]
        have f2 : FC (fun c j => c = 500 ∧ j = 29) S1 (gI S1 500 29 (A : Int)) := fc_gI ⟨rfl, rfl⟩
        have tl : (l.take A).length = A := by rw [List.length_take]; omega
        have pa2 : PaS (gI S1 500 29 (A : Int)) (l.take A) := ⟨by rw [gI_a, tl], by omega, fun i hi => by
          rw [tl] at hi
          rw [fc_i f2 (by omega), (pa_at pa (i := i) (by omega)).1, List.getD_eq_getElem?_getD, List.getD_eq_getElem?_getD, List.getElem?_take_of_lt hi], fun x hx => pa.2.2.2 x (List.mem_of_mem_take hx)⟩
        have L2 := lk_fr L1 f2 (fun j _ _ => by omega) (by omega)
        have km := kids_le hV0.1.1 (pz_l hV0.2) (g := O)
        have wn := hV0.1.1.1 O Ol
        refine ev_gcr (q_manyL (d := d - 1) (K := K) (I := O) (V := V) (by omega) rfl hK rfl L2 Ol) ?_
        refine ev_gc (q_addsPlace (d := d - 1) (A := (kids V O).length) (by omega) rfl (by omega) pa2 (by omega)) (fun _ S3 q3 => ?_)
        obtain ⟨pa3, f3⟩ := q3
        have i2 : ∀ c j, (c = 500 ∧ j = 29) → (plP c j ∨ pnP c j) := fun c j z => Or.inr (Or.inr (Or.inr (Or.inl z)))
        refine ord S3 _ 1 (-1) (fc_tr (fc_mono f1 (fun c j z => Or.inl z)) (fc_tr (fc_mono f2 i2) (fc_mono f3 (fun c j z => Or.inr z)))) pa3 (by decide) (Or.inl rfl) ?_
        have tk : l.take (A + 1) = l.take A ++ [47] := by
          have s2 := sn.2.1
          rw [show A + 1 - 1 = A by omega] at s2
          rw [List.take_add_one, ← s2, List.getD_eq_getElem?_getD, List.getElem?_eq_getElem (by omega)]
          rfl
        rw [epu, z1, if_neg (by decide), adL_1, ai, tk, List.append_assoc]
        rfl
    refine ev_up (fun n => e_X12_undoesPut_0) ?_
    unfold b_X12_undoesPut_0
    refine ev_gv ?_
    rw [hl.1]
    refine ev_gg (by first | omega | (constructor <;> omega)) ?_
    refine ev_ite (fun _ => ?_) (fun z => absurd ll z)
    refine ev_gv ?_
    refine ev_gg (by first | omega | (constructor <;> omega)) ?_
    refine ev_gc (q_plainAll (d := d - 1) (K := K) (V := V) (by omega) rfl hK hl hp hL hV0) (fun y S1 q1 => ?_)
    obtain ⟨ye, f1⟩ := q1
    rw [ex2] at ye
    have ye := ye.symm
    subst ye
    have pa1 := pa_fr hl f1 (by omega) (fun j => by omega)
    refine ev_up (fun n => e_X12_undoesPut_20) ?_
    unfold b_X12_undoesPut_20
    refine ev_gv ?_
    rw [pa1.1]
    refine ev_gg (by first | omega | (constructor <;> omega)) ?_
    refine ev_ite (fun _ => ?_) (fun z => absurd ll z)
    refine ev_gg (by first | omega | (constructor <;> omega)) ?_
    refine ev_gcr (q_lastStep (d := d - 1) pa1 hp ln) ?_
    refine ev_up (fun n => e_X12_undoesPut_36) ?_
    unfold b_X12_undoesPut_36
    refine ev_gv ?_
    rw [pa1.1]
    refine ev_gg (by first | omega | (constructor <;> omega)) ?_
    refine ev_ite (fun _ => ?_) (fun z => absurd ll z)
    refine ev_gg (by first | omega | (constructor <;> omega)) ?_
    refine ev_gc (q_plain (d := d - 1) (K := K) (V := V) (u := nW l - 1) (by omega) rfl hK pa1 hp (by omega) rfl (lk_fr hL f1 (fun j _ _ => by omega) (by omega)) hV0) (fun y S2 q2 => ?_)
    obtain ⟨ye, f2⟩ := q2
    rw [eo] at ye
    have ye := ye.symm
    subst ye
    have f02 : FC plP S S2 := fc_tr f1 f2
    have pa2 := pa_fr pa1 f2 (by omega) (fun j => by omega)
    have L2 := lk_fr hL f02 (fun j _ _ => by omega) (by omega)
    rw [e1]
    refine ev_up (fun n => e_X12_undoesPut_54) ?_
    unfold b_X12_undoesPut_54
    refine ev_gv ?_
    rw [pa2.1]
    refine ev_gg (by first | omega | (constructor <;> omega)) ?_
    refine ev_ite (fun z => absurd z ll) (fun _ => ?_)
    refine ev_gg (by first | omega | (constructor <;> omega)) ?_
    refine ev_gcr (q_kindL (d := d - 1) (K := K) (I := O) (V := V) (by omega) rfl hK rfl L2 Ol) ?_
    refine ev_gg (by first | omega | (constructor <;> omega)) ?_
    refine ev_ite (fun y => ?_) (fun y => ?_)
    · rcases am with w | w
      · exact absurd w.1 y
      · exact p89 S2 f02 pa2 w.2.1 w.2.2
    · have k5 : nk V O = 5 := by omega
      have sx2 : x2 = vLk V (O : Int) (wdA l (nW l - 1)) := by
        rw [ls]
        unfold stpT
        rw [kdI_n Ol, k5, if_neg (by decide)]
      rcases am with w | w
      · rcases w.2 with v | v
        · rw [← sx2] at v
          refine ev_gg (x2i) ?_
          refine ev_ite (fun _ => p89 S2 f02 pa2 v.2.1 v.2.2) (fun z => absurd v.1 z)
        · rw [← sx2] at v
          refine ev_gg (x2i) ?_
          refine ev_ite (fun z => absurd z v.1) (fun _ => ?_)
          have xv : 0 ≤ x2 ∧ x2 < (V.length : Int) := by
            rcases o1 with y2 | y2
            · exact absurd y2 v.1
            · exact y2
          refine ord S2 l 2 x2 (fc_mono f02 (fun c j z => Or.inl z)) pa2 (by decide) (Or.inr xv) ?_
          have evl : vL V x2 = [sg V x2.toNat] := by
            unfold vL
            rw [if_neg v.1]
          rw [epu, v.2.1, if_pos rfl, adL_1, evl, v.2.2]
          rfl
      · exact absurd (w.1.symm.trans k5) (by decide)
end RUN
