/-! THE REFERENCE: a NODE gives way; VALUES of a group come and go -/
section GRM
variable {V : List ND}
theorem mny_parts (hV : TR V ∧ PZL V) {o : Nat} (ho : o < V.length) : mny V = (mny V).take o ++ mny (sg V o) ++ (mny V).drop (o + nz V o) := by
  have w := hV.1.1.1 o ho
  rw [← mny_sg hV.1.1 ho]
  unfold seg
  rw [List.append_assoc, ← List.drop_drop, List.take_append_drop, List.take_append_drop]
/-- VALUES of a group give way to others -/
theorem grp_mny {o a g : Nat} {E1 M E2 N : List (List ND)} (hV : TR V ∧ PZL V) (ho : o < V.length) (h4 : 4 ≤ nk V o) (hE : kd (sg V o) = E1 ++ M ++ E2) (ha : a = o + 1 + E1.flatten.length) (hg : g = M.flatten.length) (hN : ∀ t ∈ N, TR t ∧ PZL t) : mny (updF (fun c => gpN (c.getD 0 nd0) (E1 ++ N ++ E2) (E1 ++ N ++ E2).length) V.length V o) = ((mny V).take a ++ (N.map mny).flatten ++ (mny V).drop (a + g)).set o (wZ (V.getD o nd0) (E1 ++ N ++ E2).length) := by
  have zz := pz_l hV.2
  have zo := zz o
  have wo := hV.1.1.1 o ho
  have ls := sg_len hV.1.1 ho
  have hs := tr_sg hV.1.1 hV.2 ho
  have rs : (sg V o).getD 0 nd0 = V.getD o nd0 := sg_root ho zo
  have h4' : 4 ≤ ((sg V o).getD 0 nd0).1 := by rw [rs]; exact h4
  have hk := kd_tr hs.1 hs.2
  rw [hE] at hk
  have kN : ∀ t ∈ E1 ++ N ++ E2, TR t ∧ PZL t := fun t ht => by
    rcases List.mem_append.mp ht with z | z
    · rcases List.mem_append.mp z with z | z
      · exact hk t (List.mem_append_left _ (List.mem_append_left _ z))
      · exact hN t z
    · exact hk t (List.mem_append_right _ z)
  have tg : TR (gpN ((sg V o).getD 0 nd0) (E1 ++ N ++ E2) (E1 ++ N ++ E2).length) ∧ PZL (gpN ((sg V o).getD 0 nd0) (E1 ++ N ++ E2) (E1 ++ N ++ E2).length) := ⟨tr_gp h4' (fun t ht => (kN t ht).1), pzl_gp (fun t ht => (kN t ht).2)⟩
  have mU := upd_mny (h := fun c => gpN (c.getD 0 nd0) (E1 ++ N ++ E2) (E1 ++ N ++ E2).length) V.length V o (Nat.le_refl _) hV ho tg
  have mS : mny (sg V o) = wZ (V.getD o nd0) (E1 ++ M ++ E2).length :: ((E1.map mny).flatten ++ ((M.map mny).flatten ++ (E2.map mny).flatten)) := by
    have e0 : sg V o = gpN ((sg V o).getD 0 nd0) (kd (sg V o)) (kd (sg V o)).length := by
      rcases tr_cases hs with z | z
      · have : rk (sg V o) = nk V o := rk_sg ho zo
        omega
      · exact z.2
    have := mny_gp (x := (sg V o).getD 0 nd0) h4' hk
    rw [← hE, ← e0] at this
    rw [this, rs, hE]
    simp
  have lf : ∀ E : List (List ND), (∀ t ∈ E, TR t ∧ PZL t) → ((E.map mny).flatten).length = E.flatten.length := fun E hE => by
    rw [← mny_flat (fun t ht => (hE t ht).1), mny_len]
  have l1 := lf E1 (fun t ht => hk t (List.mem_append_left _ (List.mem_append_left _ ht)))
  have l2 := lf M (fun t ht => hk t (List.mem_append_left _ (List.mem_append_right _ ht)))
  have mg : mny (gpN ((sg V o).getD 0 nd0) (E1 ++ N ++ E2) (E1 ++ N ++ E2).length) = wZ (V.getD o nd0) (E1 ++ N ++ E2).length :: ((E1.map mny).flatten ++ ((N.map mny).flatten ++ (E2.map mny).flatten)) := by
    rw [mny_gp h4' kN, rs]
    simp
  have parts := mny_parts hV ho
  rw [mS] at parts
  rw [mU, mg, ls]
  have lX : ((mny V).take o).length = o := by rw [List.length_take, mny_len]; omega
  generalize hD : (mny V).drop (o + nz V o) = D at *
  generalize hX : (mny V).take o = X at *
  generalize hx : wZ (V.getD o nd0) (E1 ++ M ++ E2).length = x at *
  generalize hy : wZ (V.getD o nd0) (E1 ++ N ++ E2).length = y at *
  have e1 : (mny V).take a = X ++ (x :: (E1.map mny).flatten) := by
    rw [parts, ha, List.append_assoc, List.take_append, List.take_of_length_le (by omega)]
    congr 1
    rw [List.cons_append, show o + 1 + E1.flatten.length - X.length = E1.flatten.length + 1 by omega, List.take_succ_cons, List.append_assoc, List.take_append, List.take_of_length_le (by omega), l1, Nat.sub_self, List.take_zero, List.append_nil]
  have e2 : (mny V).drop (a + g) = (E2.map mny).flatten ++ D := by
    rw [parts, ha, hg, List.append_assoc, List.drop_append, List.drop_eq_nil_of_le (by omega), List.nil_append, List.cons_append, show o + 1 + E1.flatten.length + M.flatten.length - X.length = E1.flatten.length + M.flatten.length + 1 by omega, List.drop_succ_cons, List.append_assoc, List.drop_append, List.drop_eq_nil_of_le (by omega), List.nil_append, show E1.flatten.length + M.flatten.length - (E1.map mny).flatten.length = M.flatten.length by omega, List.append_assoc, List.drop_append, List.drop_eq_nil_of_le (by omega), List.nil_append, l2, Nat.sub_self, List.drop_zero]
  rw [e1, e2, show X ++ (x :: (E1.map mny).flatten) ++ (N.map mny).flatten ++ ((E2.map mny).flatten ++ D) = X ++ (x :: ((E1.map mny).flatten ++ ((N.map mny).flatten ++ ((E2.map mny).flatten ++ D)))) by simp, List.set_append_right _ _ (by omega), show o - X.length = 0 by omega]
  simp only [List.cons_append, List.set_cons_zero, List.append_assoc]
theorem seg_0 {A : List ND} {n : Nat} : seg A 0 n = A.take n := by
  unfold seg
  rw [List.drop_zero]
theorem seg_e {A : List ND} {i : Nat} : seg A i (A.length - i) = A.drop i := by
  unfold seg
  exact List.take_of_length_le (by rw [List.length_drop]; omega)
end GRM
section RPL
variable {S : GS} {d K : Nat} {V U : List ND}
/-- a NODE gives way to one of another document -/
theorem q_replaced {k f i g j : Int} {F I G J : Nat} (hd : 6 ≤ d) (hk : k = (K : Int)) (hK : K < 48) (hf : f = (F : Int)) (hF : F < 48) (hi : i = (I : Int)) (hg : g = (G : Int)) (hG : G < 48) (hj : j = (J : Int)) (nF : F ≠ K) (nG : G ≠ K) (hV : TR V ∧ PZL V) (hU : TR U ∧ PZL U) (h : LK S F V) (hu : LK S G U) (hI : I < V.length) (hJ : J < U.length) : Ev (fun n => f_X12_replaced n d 0 S [k, f, i, g, j]) (fun _ S1 => MD S1 K (apM (some []) (mny (updF (fun c => kyT (sg U J) (rq c)) V.length V I))) ∧ FC (fun c j => doP K c j ∨ wdP c j) S S1) := by
  subst hk hf hi hg hj
  have hz := pz_l hV.2
  have wi := hV.1.1.1 I hI
  have zi := hz I
  have l := h.2.1
  have tS := tr_sg hV.1.1 hV.2 hI
  have tU := tr_sg hU.1.1 hU.2 hJ
  have rS : rq (sg V I) = nq V I := rq_sg hI zi
  have up := upd_mny (h := fun c => kyT (sg U J) (rq c)) V.length V I (Nat.le_refl _) hV hI ⟨tr_ky tU.1, pzl_ky tU.1.2.1 tU.2⟩
  rw [rS, sg_len hV.1.1 hI] at up
  refine ev_up (fun n => e_X12_replaced_0) ?_
  unfold b_X12_replaced_0
  refine ev_gg (by first | omega | (constructor <;> omega)) ?_
  refine ev_gc (q_wordOfKey (d := d - 1) (K := F) (I := I) (by omega) rfl hF rfl h hI) (fun _ S1 q1 => ?_)
  refine ev_gc (q_begin1 (d := d - 1) (K := K) rfl hK) (fun _ S2 q2 => ?_)
  have f2 : FC (fun c j => doP K c j ∨ wdP c j) S S2 := fc_tr (fc_mono q1.2 (fun c j z => Or.inr z)) (fc_mono q2.2 (fun c j z => by omega))
  have h2 : LK S2 F V := lk_fr h f2 (fun j _ _ => by omega) (by omega)
  have mr2 := lk_mr hV.1.1 hV.2 h2
  refine ev_gc (q_copies (d := d - 1) (K := K) (F := F) (A := 0) (E := I) (W0 := mny V) (by omega) rfl hK rfl hF rfl rfl (by omega) (by rw [mny_len]; omega) nF mr2 q2.1) (fun _ S3 q3 => ?_)
  obtain ⟨q3, f3⟩ := q3
  rw [seg_0, Nat.sub_zero] at q3
  have f3' : FC (fun c j => doP K c j ∨ wdP c j) S S3 := fc_tr f2 (fc_mono f3 (fun c j z => Or.inl z))
  have h3 : LK S3 F V := lk_fr h f3' (fun j _ _ => by omega) (by omega)
  have u3 : LK S3 G U := lk_fr hu f3' (fun j _ _ => by omega) (by omega)
  have w3 : WD S3 (nq V I) := wd_fr (wd_fr q1.1 q2.2 (by omega) (fun j => by omega)) f3 (by omega) (fun j => by omega)
  have l12 : (nq V I).length ≤ 12 := (lk_key h hI).1
  refine ev_gcr (q_keysL (d := d - 1) (K := F) (I := I) (by omega) rfl hF rfl h3 hI) ?_
  have fin : ∀ (M : Nat), M ≤ 1 → (M = 0 → nq V I = []) → Ev (fun n => f_X12_replaced n d 60 S3 [(K : Int), (F : Int), (I : Int), (M : Int), (J : Int), (G : Int), (K : Int)]) (fun _ S1 => MD S1 K (apM (some []) (mny (updF (fun c => kyT (sg U J) (rq c)) V.length V I))) ∧ FC (fun c j => doP K c j ∨ wdP c j) S S1) := by
    intro M hM hM0
    refine ev_up (fun n => e_X12_replaced_60) ?_
    unfold b_X12_replaced_60
    refine ev_gg (by first | omega | (constructor <;> omega)) ?_
    refine ev_gc (q_brings (d := d - 1) (K := K) (F := G) (I := J) (M := M) (w := nq V I) (by omega) rfl hK rfl hG rfl rfl hM nG u3 hU hJ (fun _ => ⟨w3, l12⟩) q3) (fun _ S4 q4 => ?_)
    obtain ⟨q4, f4⟩ := q4
    have ek : (if M = 1 then nq V I else []) = nq V I := by
      by_cases c : M = 1
      · rw [if_pos c]
      · rw [if_neg c, hM0 (by omega)]
    rw [ek, apM_app] at q4
    have h4 : LK S4 F V := lk_fr h3 f4 (fun j _ _ => by omega) (by omega)
    refine ev_gcr (q_endL (d := d - 1) (K := F) (I := I) (by omega) rfl hF rfl h4 hI) ?_
    refine ev_gg (by first | omega | (constructor <;> omega)) ?_
    refine ev_gv ?_
    rw [Int.toNat_natCast, h4.1]
    refine ev_gc (q_copies (d := d - 1) (K := K) (F := F) (A := I + nz V I) (E := V.length) (W0 := mny V) (by omega) rfl hK rfl hF rfl rfl (by omega) (by rw [mny_len]; omega) nF (lk_mr hV.1.1 hV.2 h4) q4) (fun _ S5 q5 => ?_)
    obtain ⟨q5, f5⟩ := q5
    have e5 := seg_e (A := mny V) (i := I + nz V I)
    rw [mny_len] at e5
    rw [e5, apM_app] at q5
    refine ev_ret ⟨?_, fc_tr f3' (fc_tr (fc_mono f4 (fun c j z => Or.inl z)) (fc_mono f5 (fun c j z => Or.inl z)))⟩
    rw [up]
    exact q5
  refine ev_gg (by first | omega | (constructor <;> omega)) ?_
  refine ev_ite (fun z => ?_) (fun z => ?_)
  · exact fin 1 (by decide) (fun e => by omega)
  have q0 : nq V I = [] := List.length_eq_zero_iff.mp (by omega)
  refine ev_gg (by first | omega | (constructor <;> omega)) ?_
  refine ev_ite (fun z2 => ?_) (fun z2 => ?_)
  · exact fin 0 (by decide) (fun _ => q0)
  obtain ⟨o, o1, o2, o3, o4, o5⟩ := own_kid hV (i := I) (by omega) hI
  refine ev_gcr (q_parentL (d := d - 1) (K := F) (I := I) (by omega) rfl hF rfl h3 hI) ?_
  rw [o1]
  have nr := h.2.2.2 _ (nd_mem (show o < V.length by omega))
  have kr : 0 ≤ nk V o ∧ nk V o ≤ 5 := ⟨nr.1, nr.2.1⟩
  refine ev_gcr (q_kindL (d := d - 1) (K := F) (I := o) (by omega) rfl hF rfl h3 (by omega)) ?_
  refine ev_gg (by first | omega | (constructor <;> omega)) ?_
  refine ev_ite (fun z3 => ?_) (fun z3 => ?_)
  · exact fin 0 (by decide) (fun _ => q0)
  · exact fin 1 (by decide) (fun e => by omega)
end RPL
