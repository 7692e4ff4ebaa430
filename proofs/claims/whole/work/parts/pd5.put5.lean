/-! THE REFERENCE: PUT is not too much -/
theorem ev_and {m : Nat → Option (Int × GS)} {P R : Int → GS → Prop} (h1 : Ev m P) (h2 : Ev m R) : Ev m (fun x S => P x S ∧ R x S) := by
  obtain ⟨x, S, p, N, hN⟩ := h1
  obtain ⟨y, T, r, M, hM⟩ := h2
  have e := (hN (max N M) (Nat.le_max_left _ _)).symm.trans (hM (max N M) (Nat.le_max_right _ _))
  have e := Option.some.inj e
  have e1 : x = y := congrArg Prod.fst e
  have e2 : S = T := congrArg Prod.snd e
  subst e1
  subst e2
  exact ⟨x, S, ⟨p, r⟩, N, hN⟩
section RPT5
variable {S : GS} {d K F G : Nat} {V U : List ND} {l : List Int}
/-- a VALUE comes into a group -/
theorem q_put1975 {J o p : Nat} (hd : 8 ≤ d) (hK : K < 48) (hF : F < 48) (hG : G < 48) (nF : F ≠ K) (nG : G ≠ K) (hV : SDC V) (hU : SDC U) (hJ : J < U.length) (h : LK S F V) (hu : LK S G U) (hw : WD S (wdA l (nW l - 1))) (hz : aimS l V = some (false, o, o1 V o p, p)) (hq : rq V = []) (hl : rng l) : Ev (fun n => f_X12_canPut n d 197 S [(K : Int), (F : Int), (G : Int), (J : Int), (o : Int), (p : Int)]) (fun x S1 => x = (if pOK (putT l V (false, o, o1 V o p, p) (sg U J)) then 1 else 0) ∧ (pOK (putT l V (false, o, o1 V o p, p) (sg U J)) → LK S1 K (putT l V (false, o, o1 V o p, p) (sg U J))) ∧ FC (cpP K) S S1 ∧ (pOK (putT l V (false, o, o1 V o p, p) (sg U J)) → S1.2.1 500 5 = false)) := by
  have hz' := pz_l hV.1.2
  have ok := aimS_ok hV.1 hz
  have ho : o < V.length := ok.1
  obtain ⟨a1, a2, a3, a4, a5, a6, a7⟩ := ok.2.2 rfl
  have a1 : 4 ≤ nk V o := a1
  have a2 : p ≤ (kids V o).length := a2
  have vl := h.2.1
  have wo := hV.1.1.1.1 o ho
  have kl := kids_le hV.1.1.1 hz' (g := o)
  have sU := sdc_sg U.length U (Nat.le_refl _) hU J hJ
  have lS := sg_len hV.1.1.1 ho
  have eT : putT l V (false, o, o1 V o p, p) (sg U J) = updF (insT p (kyT (sg U J) (kyA l V o))) V.length V o := by
    unfold putT
    exact if_neg Bool.false_ne_true
  have ky1 : TR (kyT (sg U J) (kyA l V o)) ∧ PZL (kyT (sg U J) (kyA l V o)) := ⟨tr_ky sU.1.1, pzl_ky sU.1.1.2.1 sU.1.2⟩
  have lk : (kd (sg V o)).length = (kids V o).length := by rw [kd_sg hV.1.2 hV.1.1.1 ho, List.length_map]
  have gm := grp_mny (V := V) (o := o) (a := o1 V o p) (g := 0) (E1 := (kd (sg V o)).take p) (M := []) (E2 := (kd (sg V o)).drop p) (N := [kyT (sg U J) (kyA l V o)]) hV.1 ho a1 (by rw [List.append_nil, List.take_append_drop]) rfl rfl (fun u hu => by rw [List.mem_singleton] at hu; rw [hu]; exact ky1)
  have eu : updF (fun c => gpN (c.getD 0 nd0) ((kd (sg V o)).take p ++ [kyT (sg U J) (kyA l V o)] ++ (kd (sg V o)).drop p) ((kd (sg V o)).take p ++ [kyT (sg U J) (kyA l V o)] ++ (kd (sg V o)).drop p).length) V.length V o = updF (insT p (kyT (sg U J) (kyA l V o))) V.length V o := by
    refine upd_same V.length V o (Nat.le_refl _) hV.1 ho ?_
    unfold insT
    have e : (kd (sg V o)).take p ++ [kyT (sg U J) (kyA l V o)] ++ (kd (sg V o)).drop p = (kd (sg V o)).take p ++ kyT (sg U J) (kyA l V o) :: (kd (sg V o)).drop p := by simp
    rw [e]
  have ln : ((kd (sg V o)).take p ++ [kyT (sg U J) (kyA l V o)] ++ (kd (sg V o)).drop p).length = (kids V o).length + 1 := by
    rw [List.length_append, List.length_append, List.length_take, List.length_drop, List.length_singleton, lk]
    omega
  rw [eu, ln, Nat.add_zero] at gm
  simp only [List.map_cons, List.map_nil, List.flatten_cons, List.flatten_nil, List.append_nil] at gm
  have pt := putT_tr hV.1 hz sU.1
  have nr : (putT l V (false, o, o1 V o p, p) (sg U J)).length ≤ 100 → ∀ y ∈ putT l V (false, o, o1 V o p, p) (sg U J), NR y := fun hn y hy => ((put_sdc hV hq hl sU hz hn).1.2.1 y hy).1
  have pos : (kids V o).getD p (o + nz V o) = o1 V o p := by
    have sp := aimS_ok hV.1 hz
    unfold o1
    by_cases c : p < (kids V o).length
    · have e := split_at (z := o + nz V o) c
      have s := (ks_split hV.1.1.1 hz' wo ((kids V o).take p) (o + 1) ((kids V o).getD p (o + nz V o)) _ e).1
      rw [kd_sg hV.1.2 hV.1.1.1 ho, ← List.map_take]
      omega
    · have e : p = (kids V o).length := by omega
      rw [List.getD_eq_getElem?_getD, List.getElem?_eq_none (by omega), List.take_of_length_le (by omega)]
      have hs := tr_sg hV.1.1.1 hV.1.2 ho
      have e2 := congrArg List.length (kd_flat hs.2 hs.1.2.1)
      rw [List.length_cons, lS] at e2
      show o + nz V o = _
      omega
  have olt : o < o1 V o p := a5
  have ole : o1 V o p ≤ V.length := a4
  have mo : (mny V).getD o nd0 = wZ (V.getD o nd0) (kids V o).length := by rw [mny_at ho, lk]
  have nro := h.2.2.2 _ (nd_mem ho)
  have kr : 0 ≤ nk V o ∧ nk V o ≤ 5 := ⟨nro.1, nro.2.1⟩
  refine ev_up (fun n => e_X12_canPut_197) ?_
  unfold b_X12_canPut_197
  refine ev_gg (by first | omega | (constructor <;> omega)) ?_
  refine ev_gcr (q_childAt (d := d - 1) (K := F) (G := o) (P := p) (by omega) rfl hF rfl rfl h hV.1.1.1 hV.1.2 ho a2) ?_
  rw [pos]
  refine ev_gc (q_begin1 (d := d - 1) (K := K) rfl hK) (fun _ S1 q1 => ?_)
  have f1 : FC (doP K) S S1 := fc_mono q1.2 (fun c j z => by omega)
  refine ev_gc (q_copies (d := d - 1) (K := K) (F := F) (A := 0) (E := o1 V o p) (W0 := mny V) (by omega) rfl hK rfl hF rfl rfl (by omega) (by rw [mny_len]; omega) nF (lk_mr hV.1.1.1 hV.1.2 (lk_fr h f1 (fun j _ _ => by omega) (by omega))) q1.1) (fun _ S2 q2 => ?_)
  obtain ⟨q2, f2⟩ := q2
  rw [seg_0, Nat.sub_zero] at q2
  have f2' : FC (doP K) S S2 := fc_tr f1 f2
  have h2 : LK S2 F V := lk_fr h f2' (fun j _ _ => by omega) (by omega)
  have u2 : LK S2 G U := lk_fr hu f2' (fun j _ _ => by omega) (by omega)
  have w2 : WD S2 (wdA l (nW l - 1)) := wd_fr hw f2' (by omega) (fun j => by omega)
  refine ev_gcr (q_kindL (d := d - 1) (K := F) (I := o) (by omega) rfl hF rfl h2 ho) ?_
  refine ev_gg (by first | omega | (constructor <;> omega)) ?_
  have fin : ∀ (M : Nat), M ≤ 1 → (M = 1 ↔ nk V o = 5) → Ev (fun n => f_X12_canPut n d 243 S2 [(K : Int), (F : Int), (o : Int), ((o1 V o p : Nat) : Int), (M : Int), (J : Int), (G : Int), (K : Int)]) (fun x S1 => x = (if pOK (putT l V (false, o, o1 V o p, p) (sg U J)) then 1 else 0) ∧ (pOK (putT l V (false, o, o1 V o p, p) (sg U J)) → LK S1 K (putT l V (false, o, o1 V o p, p) (sg U J))) ∧ FC (cpP K) S S1 ∧ (pOK (putT l V (false, o, o1 V o p, p) (sg U J)) → S1.2.1 500 5 = false)) := by
    intro M hM hM5
    have ek : (if M = 1 then wdA l (nW l - 1) else []) = kyA l V o := by
      unfold kyA
      by_cases c : M = 1
      · rw [if_pos c, if_pos (hM5.mp c)]
      · rw [if_neg c, if_neg (fun z => c (hM5.mpr z))]
    refine ev_up (fun n => e_X12_canPut_243) ?_
    unfold b_X12_canPut_243
    refine ev_gg (by first | omega | (constructor <;> omega)) ?_
    refine ev_gc (q_brings (d := d - 1) (K := K) (F := G) (I := J) (M := M) (w := wdA l (nW l - 1)) (by omega) rfl hK rfl hG rfl rfl hM nG u2 hU.1 hJ (fun e => ⟨w2, (a7 (hM5.mp e)).1⟩) q2) (fun _ S3 q3 => ?_)
    obtain ⟨q3, f3⟩ := q3
    rw [ek, apM_app] at q3
    have f3' : FC (doP K) S S3 := fc_tr f2' f3
    have h3 : LK S3 F V := lk_fr h f3' (fun j _ _ => by omega) (by omega)
    refine ev_gg (by first | omega | (constructor <;> omega)) ?_
    refine ev_gv ?_
    rw [Int.toNat_natCast, h3.1]
    refine ev_gc (q_copies (d := d - 1) (K := K) (F := F) (A := o1 V o p) (E := V.length) (W0 := mny V) (by omega) rfl hK rfl hF rfl rfl (by omega) (by rw [mny_len]; omega) nF (lk_mr hV.1.1.1 hV.1.2 h3) q3) (fun _ S4 q4 => ?_)
    obtain ⟨q4, f4⟩ := q4
    have e5' := seg_e (A := mny V) (i := o1 V o p)
    rw [mny_len] at e5'
    rw [e5', apM_app] at q4
    have f4' : FC (doP K) S S4 := fc_tr f3' f4
    refine ev_gcr (q_at) ?_
    refine ev_gv ?_
    refine ev_gg (by first | omega | (constructor <;> omega)) ?_
    refine ev_gv ?_
    refine ev_gv ?_
    refine ev_gv ?_
    rw [show ((101 * (K : Int) + (o : Int)) * 61 + 3).toNat = 6161 * K + 61 * o + 3 by omega]
    have f5 : FC (doP K) S (gI S4 501 (6161 * K + 61 * o + 3) (S4.1 501 (6161 * K + 61 * o + 3) + 1)) := fc_tr f4' (fc_gI (Or.inl ⟨rfl, by omega, by omega⟩))
    generalize hW : (mny V).take (o1 V o p) ++ mny (kyT (sg U J) (kyA l V o)) ++ (mny V).drop (o1 V o p) = W at *
    have lT : (putT l V (false, o, o1 V o p, p) (sg U J)).length = W.length := by
      have := congrArg List.length gm
      rw [mny_len, List.length_set] at this
      rw [eT]
      exact this
    have md : MD (gI S4 501 (6161 * K + 61 * o + 3) (S4.1 501 (6161 * K + 61 * o + 3) + 1)) K (apM (some []) (mny (putT l V (false, o, o1 V o p, p) (sg U J)))) := by
      by_cases c : W.length ≤ 100
      · rw [apM_some c] at q4
        rw [apM_some (by rw [mny_len, lT]; exact c)]
        have oW : o < W.length := by
          rw [← hW, List.length_append, List.length_append, List.length_take, mny_len]
          omega
        have gW : W.getD o nd0 = wZ (V.getD o nd0) (kids V o).length := by
          rw [← hW, List.append_assoc, getD_append, if_pos (by rw [List.length_take, mny_len]; omega), List.getD_eq_getElem?_getD, List.getElem?_take, if_pos olt, ← List.getD_eq_getElem?_getD, mo]
        have rd := (q4.2.2.2.1 o oW).2
        rw [gW] at rd
        rw [rd, show ((wZ (V.getD o nd0) (kids V o).length).2.1 : Int) + 1 = (((kids V o).length + 1 : Nat) : Int) from rfl]
        have q5 := md_set3 (i := o) (v := (kids V o).length + 1) q4 (by omega) (by omega)
        dsimp only [Option.map] at q5
        rw [gW] at q5
        rw [eT, gm]
        exact q5
      · rw [apM_none (by omega)] at q4
        rw [apM_none (by rw [mny_len, lT]; omega)]
        exact md_gN q4
    refine ev_gc (q_isWhole (d := d - 1) (by omega) rfl hK pt nr md) (fun x S6 q6 => ?_)
    obtain ⟨q6, q7, q8⟩ := q6
    refine ev_gg (by rw [q6]; split <;> decide) ?_
    refine ev_ret ⟨q6, q7, fc_tr (fc_mono f5 (fun c j z => Or.inl z)) (fc_mono q8 (fun c j z => by omega)), fun c => ?_⟩
    rw [fc_b q8 (by omega)]
    rw [apM_some (by rw [mny_len]; exact c.1)] at md
    exact md.1
  refine ev_ite (fun z => ?_) (fun z => ?_)
  · exact fin 0 (by decide) ⟨fun e => by omega, fun e => by omega⟩
  · exact fin 1 (by decide) ⟨fun e => by omega, fun e => rfl⟩
theorem q_canPut5 {k f g j : Int} {J : Nat} (hd : 10 ≤ d) (hk : k = (K : Int)) (hK : K < 48) (hf : f = (F : Int)) (hF : F < 48) (hg : g = (G : Int)) (hG : G < 48) (hj : j = (J : Int)) (nF : F ≠ K) (nG : G ≠ K) (hV : SDC V) (hq : rq V = []) (hU : SDC U) (hJ : J < U.length) (h : LK S F V) (hu : LK S G U) (hl : PaS S l) (hp : isP l) : Ev (fun n => f_X12_canPut n d 0 S [k, f, g, j]) (fun x S1 => x = (match lyP l V (sg U J) with | none => 0 | some _ => 1) ∧ (∀ T, lyP l V (sg U J) = some T → LK S1 K T) ∧ FC (cpP K) S S1 ∧ (∀ T, lyP l V (sg U J) = some T → S1.2.1 500 5 = false)) := by
  subst hk hf hg hj
  have hz' := pz_l hV.1.2
  have l9 := hl.2.1
  have l1 := hV.1.1.2.1
  have vl := h.2.1
  have ul := hu.2.1
  have rl : rng l := hl.2.2.2
  have sU := sdc_sg U.length U (Nat.le_refl _) hU J hJ
  have out : ∀ (z : Bool × Nat × Nat × Nat) (S0 : GS), aimS l V = some z → FC (cpP K) S S0 → ∀ (x : Int) (S1 : GS), (x = (if pOK (putT l V z (sg U J)) then 1 else 0) ∧ (pOK (putT l V z (sg U J)) → LK S1 K (putT l V z (sg U J))) ∧ FC (cpP K) S0 S1 ∧ (pOK (putT l V z (sg U J)) → S1.2.1 500 5 = false)) → x = (match lyP l V (sg U J) with | none => 0 | some _ => 1) ∧ (∀ T, lyP l V (sg U J) = some T → LK S1 K T) ∧ FC (cpP K) S S1 ∧ (∀ T, lyP l V (sg U J) = some T → S1.2.1 500 5 = false) := by
    intro z S0 hz hf x S1 q
    unfold lyP
    rw [hz]
    dsimp only
    by_cases c : pOK (putT l V z (sg U J))
    · rw [if_pos c] at q ⊢
      exact ⟨q.1, (fun T hT => by cases hT; exact q.2.1 c), fc_tr hf q.2.2.1, fun _ _ => q.2.2.2 c⟩
    · rw [if_neg c] at q ⊢
      exact ⟨q.1, (fun T hT => by cases hT), fc_tr hf q.2.2.1, (fun T hT => by cases hT)⟩
  have no_ : aimS l V = none → ∀ S1, FC (cpP K) S S1 → Ev (fun _ => some (0, S1)) (fun x S1 => x = (match lyP l V (sg U J) with | none => 0 | some _ => 1) ∧ (∀ T, lyP l V (sg U J) = some T → LK S1 K T) ∧ FC (cpP K) S S1 ∧ (∀ T, lyP l V (sg U J) = some T → S1.2.1 500 5 = false)) := by
    intro hz S1 hf
    have e : lyP l V (sg U J) = none := by unfold lyP; rw [hz]
    rw [e]
    exact ev_ret ⟨rfl, (fun T hT => by cases hT), hf, (fun T hT => by cases hT)⟩
  refine ev_up (fun n => e_X12_canPut_0) ?_
  unfold b_X12_canPut_0
  refine ev_gv ?_
  rw [hl.1]
  refine ev_gg (by first | omega | (constructor <;> omega)) ?_
  refine ev_ite (fun z => ?_) (fun z => ?_)
  · have ln : l ≠ [] := fun e => by rw [e] at z; exact z rfl
    have n1 := nW_pos hp ln
    have c0 : ¬ nW l = 0 := by omega
    refine ev_gg (by first | omega | (constructor <;> omega)) ?_
    refine ev_gcr (q_lastStep (d := d - 1) hl hp ln) ?_
    refine ev_gc (q_plain (d := d - 1) (K := F) (u := nW l - 1) (by omega) rfl hF hl hp (by omega) rfl h hV.1) (fun x S1 q => ?_)
    obtain ⟨rfl, f1⟩ := q
    have no := ld_ok (l := l) hV.1 (nW l - 1)
    have f1' : FC (cpP K) S S1 := fc_mono f1 (fun c j z => by omega)
    have h1 : LK S1 F V := lk_fr h f1' (fun j _ _ => by omega) (by omega)
    refine ev_gg (by rcases no with q | q <;> constructor <;> omega) ?_
    refine ev_ite (fun z2 => ?_) (fun z2 => ?_)
    · refine no_ ?_ S1 f1'
      unfold aimS
      rw [if_neg c0, z2, if_neg (by unfold kdI; rw [if_neg (by omega)]; omega), if_neg (by unfold kdI; rw [if_neg (by omega)]; omega)]
    obtain ⟨o, hi⟩ : ∃ i : Nat, ldT l V (nW l - 1) = (i : Int) := ⟨(ldT l V (nW l - 1)).toNat, by rcases no with q | q <;> omega⟩
    have ho : o < V.length := by rcases no with q | q <;> omega
    have nro := h.2.2.2 _ (nd_mem ho)
    have kr : 0 ≤ nk V o ∧ nk V o ≤ 5 := ⟨nro.1, nro.2.1⟩
    have kn := kdI_n ho
    have wo := hV.1.1.1.1 o ho
    have kl := kids_le hV.1.1.1 hz' (g := o)
    rw [hi]
    refine ev_gcr (q_kindL (d := d - 1) (K := F) (I := o) (by omega) rfl hF rfl h1 ho) ?_
    refine ev_gg (by first | omega | (constructor <;> omega)) ?_
    refine ev_ite (fun z3 => ?_) (fun z3 => ?_)
    · refine q_stepWord (u := nW l - 1) (by omega) (pa_fr hl f1' (by omega) (fun j => by omega)) hp (by omega) rfl (fun y S2 w2 e31 e30 f2 => ?_)
      have f2' : FC (cpP K) S S2 := fc_tr f1' (fc_mono f2 (fun c j z => by omega))
      have h2 : LK S2 F V := lk_fr h f2' (fun j _ _ => by omega) (by omega)
      have u2 : LK S2 G U := lk_fr hu f2' (fun j _ _ => by omega) (by omega)
      have go : ∀ (p : Nat) (S3 : GS), aimS l V = some (false, o, o1 V o p, p) → FC (cpP K) S S3 → WD S3 (wdA l (nW l - 1)) → Ev (fun n => f_X12_canPut n d 197 S3 [(K : Int), (F : Int), (G : Int), (J : Int), (o : Int), (p : Int)]) (fun x S1 => x = (match lyP l V (sg U J) with | none => 0 | some _ => 1) ∧ (∀ T, lyP l V (sg U J) = some T → LK S1 K T) ∧ FC (cpP K) S S1 ∧ (∀ T, lyP l V (sg U J) = some T → S1.2.1 500 5 = false)) := fun p S3 hz f3 w3 => ev_mono (q_put1975 (by omega) hK hF hG nF nG hV hU hJ (lk_fr h f3 (fun j _ _ => by omega) (by omega)) (lk_fr hu f3 (fun j _ _ => by omega) (by omega)) w3 hz hq rl) (fun x S4 q => out _ S3 hz f3 x S4 q)
      refine ev_gcr (q_kindL (d := d - 1) (K := F) (I := o) (by omega) rfl hF rfl h2 ho) ?_
      refine ev_gg (by first | omega | (constructor <;> omega)) ?_
      refine ev_ite (fun z4 => ?_) (fun z4 => ?_)
      · have k4 : nk V o = 4 := by omega
        have aim : aimS l V = (if 0 ≤ pRow l V o ∧ pRow l V o ≤ ((kids V o).length : Int) then some (false, o, if pRow l V o < ((kids V o).length : Int) then (atK (kids V o) (pRow l V o)).toNat else o + nz V o, (pRow l V o).toNat) else none) := by
          unfold aimS
          rw [if_neg c0, hi, kn, if_neg (by omega), if_pos k4, Int.toNat_natCast]
        have aimp : ∀ p : Nat, pRow l V o = (p : Int) → p ≤ (kids V o).length → aimS l V = some (false, o, o1 V o p, p) := by
          intro p hp1 hp2
          have e := aim
          rw [if_pos (by omega), hp1, Int.toNat_natCast] at e
          have := (aimS_ok hV.1 e).2.2 rfl
          rw [e]
          have e3 : (if (p : Int) < ((kids V o).length : Int) then (atK (kids V o) (p : Int)).toNat else o + nz V o) = o1 V o p := this.2.2.1
          rw [e3]
        refine ev_up (fun n => e_X12_canPut_133) ?_
        unfold b_X12_canPut_133
        refine ev_gg (by first | omega | (constructor <;> omega)) ?_
        refine ev_gcr (q_manyL (d := d - 1) (K := F) (I := o) (by omega) rfl hF rfl h2 ho) ?_
        refine ev_gcr (q_kindL (d := d - 1) (K := F) (I := o) (by omega) rfl hF rfl h2 ho) ?_
        refine ev_gg (by first | omega | (constructor <;> omega)) ?_
        refine ev_ite (fun z => by omega) (fun _ => ?_)
        refine ev_gv ?_
        rw [w2.1]
        have w9 := w2.2.1
        refine ev_gg (by first | omega | (constructor <;> omega)) ?_
        have prow : pRow l V o = if wdA l (nW l - 1) = sx 20 then ((kids V o).length : Int) else plN (wdA l (nW l - 1)) := rfl
        rw [sx_20] at prow
        have c177 : wdA l (nW l - 1) ≠ [45] → Ev (fun n => f_X12_canPut n d 177 S2 [(K : Int), (F : Int), (G : Int), (J : Int), (o : Int), ((kids V o).length : Int)]) (fun x S1 => x = (match lyP l V (sg U J) with | none => 0 | some _ => 1) ∧ (∀ T, lyP l V (sg U J) = some T → LK S1 K T) ∧ FC (cpP K) S S1 ∧ (∀ T, lyP l V (sg U J) = some T → S1.2.1 500 5 = false)) := by
          intro hne
          rw [if_neg hne] at prow
          have fr := fgN_r (wdA l (nW l - 1))
          have pf := plN_fg (wdA l (nW l - 1))
          refine ev_up (fun n => e_X12_canPut_177) ?_
          unfold b_X12_canPut_177
          refine ev_gg (by first | omega | (constructor <;> omega)) ?_
          refine ev_gcr (q_figured (d := d - 1) (A := 0) (by omega) rfl (by decide) w2) ?_
          rw [List.drop_zero]
          refine ev_gcr (q_in (d := d - 1) ⟨by constructor <;> omega, by decide, by constructor <;> omega⟩) ?_
          by_cases c : 0 ≤ fgN (wdA l (nW l - 1)) ∧ fgN (wdA l (nW l - 1)) ≤ ((kids V o).length : Int)
          · rw [if_pos c]
            refine ev_gg (by decide) ?_
            refine ev_ite (fun _ => ?_) (fun z => by omega)
            obtain ⟨p, hp1⟩ : ∃ p : Nat, fgN (wdA l (nW l - 1)) = (p : Int) := ⟨(fgN (wdA l (nW l - 1))).toNat, by omega⟩
            rw [hp1]
            exact go p S2 (aimp p (by omega) (by omega)) f2' w2
          · rw [if_neg c]
            refine ev_gg (by decide) ?_
            refine ev_ite (fun z => by omega) (fun _ => ?_)
            refine no_ ?_ S2 f2'
            rw [aim, if_neg (by omega)]
        refine ev_ite (fun z5 => ?_) (fun z5 => ?_)
        · exact c177 (fun e => z5 (by rw [e]; rfl))
        · obtain ⟨a, ha⟩ : ∃ a, wdA l (nW l - 1) = [a] := List.length_eq_one_iff.mp (by omega)
          refine ev_gg (by decide) ?_
          refine ev_gv ?_
          have g0 := w2.2.2.1 0 (by omega)
          rw [ha] at g0
          have ra := w2.2.2.2 a (by rw [ha]; exact List.mem_cons_self)
          rw [show (0 : Int).toNat = 0 from rfl, g0, show [a].getD 0 0 = a from rfl]
          refine ev_gg (by first | omega | (constructor <;> omega)) ?_
          refine ev_ite (fun z6 => ?_) (fun z6 => ?_)
          · rw [if_pos (by rw [ha, z6])] at prow
            exact go (kids V o).length S2 (aimp _ prow (Nat.le_refl _)) f2' w2
          · exact c177 (fun e => z6 (by rw [ha] at e; exact (List.cons.inj e).1))
      · have k5 : nk V o = 5 := by omega
        have vl_ := vLk_n (w := wdA l (nW l - 1)) ho
        rw [if_pos k5] at vl_
        refine ev_gcr (q_childByWord (d := d - 1) (K := F) (G := o) (by omega) rfl hF rfl h2 hV.1.1.1 hV.1.2 ho w2) ?_
        have fr := fdK_mem (V := V) (key := wdA l (nW l - 1)) (kids V o)
        have fkl : fdK V (wdA l (nW l - 1)) (kids V o) = -1 ∨ ∃ c : Nat, c < V.length ∧ fdK V (wdA l (nW l - 1)) (kids V o) = (c : Int) := by
          rcases fr with q | ⟨c, c1, c2, c3⟩
          · exact Or.inl q
          · exact Or.inr ⟨c, (kid_in3 hV.1.1.1 hz' ho c1).2.1, c2⟩
        refine ev_gg (by rcases fkl with q | ⟨c, c1, c2⟩ <;> constructor <;> omega) ?_
        have aim : aimS l V = (if fdK V (wdA l (nW l - 1)) (kids V o) = -1 then (if (wdA l (nW l - 1)).length ≤ 12 then some (false, o, o + nz V o, (kids V o).length) else none) else some (true, o, (fdK V (wdA l (nW l - 1)) (kids V o)).toNat, 0)) := by
          unfold aimS
          rw [if_neg c0, hi, kn, if_pos k5, vl_, Int.toNat_natCast]
        refine ev_ite (fun z5 => ?_) (fun z5 => ?_)
        · rw [if_pos z5] at aim
          refine ev_gv ?_
          rw [w2.1]
          have w9 := w2.2.1
          refine ev_gg (by first | omega | (constructor <;> omega)) ?_
          refine ev_ite (fun z6 => ?_) (fun z6 => ?_)
          · rw [if_pos (by omega)] at aim
            have := (aimS_ok hV.1 aim).2.2 rfl
            have e3 : o + nz V o = o1 V o (kids V o).length := this.2.2.1
            rw [e3] at aim
            refine ev_up (fun n => e_X12_canPut_133) ?_
            unfold b_X12_canPut_133
            refine ev_gg (by first | omega | (constructor <;> omega)) ?_
            refine ev_gcr (q_manyL (d := d - 1) (K := F) (I := o) (by omega) rfl hF rfl h2 ho) ?_
            refine ev_gcr (q_kindL (d := d - 1) (K := F) (I := o) (by omega) rfl hF rfl h2 ho) ?_
            refine ev_gg (by first | omega | (constructor <;> omega)) ?_
            refine ev_ite (fun _ => ?_) (fun z => by omega)
            exact go _ S2 aim f2' w2
          · rw [if_neg (by omega)] at aim
            exact no_ aim S2 f2'
        · rw [if_neg z5] at aim
          obtain ⟨c, c1, c2⟩ : ∃ c : Nat, c < V.length ∧ fdK V (wdA l (nW l - 1)) (kids V o) = (c : Int) := by
            rcases fkl with q | q
            · exact absurd q z5
            · exact q
          rw [c2] at aim ⊢
          rw [Int.toNat_natCast] at aim
          have eT : putT l V (true, o, c, 0) (sg U J) = updF (fun c => kyT (sg U J) (rq c)) V.length V c := by
            unfold putT
            rw [if_pos rfl]
          have pt := putT_tr hV.1 aim sU.1
          refine ev_gc (q_replaced (d := d - 1) (K := K) (F := F) (I := c) (G := G) (J := J) (by omega) rfl hK rfl hF rfl rfl hG rfl nF nG hV.1 hU.1 h2 u2 c1 hJ) (fun _ S3 q => ?_)
          obtain ⟨q3, f3⟩ := q
          rw [← eT] at q3
          refine ev_gc (q_isWhole (d := d - 1) (by omega) rfl hK pt (fun hn y hy => ((put_sdc hV hq rl sU aim hn).1.2.1 y hy).1) q3) (fun x S4 q6 => ?_)
          refine ev_gg (by rw [q6.1]; split <;> decide) ?_
          refine ev_ret (out _ S2 aim f2' x S4 ⟨q6.1, q6.2.1, fc_tr (fc_mono f3 (fun c j z => by omega)) (fc_mono q6.2.2 (fun c j z => by omega)), fun c => ?_⟩)
          rw [fc_b q6.2.2 (by omega)]
          rw [apM_some (by rw [mny_len]; exact c.1)] at q3
          exact q3.1
    · refine no_ ?_ S1 f1'
      unfold aimS
      rw [if_neg c0, hi, kn, if_neg (by omega), if_neg (by omega)]
  · have ln : l = [] := List.length_eq_zero_iff.mp (by omega)
    have aim : aimS l V = some (true, 0, 0, 0) := by unfold aimS; rw [ln, if_pos nW_0]
    have eT : putT l V (true, 0, 0, 0) (sg U J) = kyT (sg U J) [] := by
      unfold putT
      rw [if_pos rfl, updF_0, hq]
    have pt := putT_tr hV.1 aim sU.1
    refine ev_gg (by first | omega | (constructor <;> omega)) ?_
    refine ev_gc (q_begin1 (d := d - 1) (K := K) rfl hK) (fun _ S1 q1 => ?_)
    have f1 : FC (cpP K) S S1 := fc_mono q1.2 (fun c j z => by omega)
    refine ev_gc (q_brings (d := d - 1) (K := K) (F := G) (I := J) (M := 0) (w := []) (by omega) rfl hK rfl hG rfl rfl (by decide) nG (lk_fr hu f1 (fun j _ _ => by omega) (by omega)) hU.1 hJ (fun e => by omega) q1.1) (fun _ S2 q2 => ?_)
    obtain ⟨q2, f2⟩ := q2
    rw [if_neg (by decide), ← eT] at q2
    refine ev_gc (q_isWhole (d := d - 1) (by omega) rfl hK pt (fun hn y hy => ((put_sdc hV hq rl sU aim hn).1.2.1 y hy).1) q2) (fun x S4 q6 => ?_)
    refine ev_gg (by rw [q6.1]; split <;> decide) ?_
    refine ev_ret (out _ S1 aim f1 x S4 ⟨q6.1, q6.2.1, fc_tr (fc_mono f2 (fun c j z => Or.inl z)) (fc_mono q6.2.2 (fun c j z => by omega)), fun c => ?_⟩)
    rw [fc_b q6.2.2 (by omega)]
    rw [apM_some (by rw [mny_len]; exact c.1)] at q2
    exact q2.1
/-- what is cut is not too much -/
theorem q_canCut5 {k f : Int} {l : List Int} (hd : 9 ≤ d) (hk : k = (K : Int)) (hK : K < 48) (hf : f = (F : Int)) (hF : F < 48) (nF : F ≠ K) (hV : SDC V) (hq : rq V = []) (h : LK S F V) (hl : PaS S l) (hp : isP l) : Ev (fun n => f_X12_canCut n d 0 S [k, f]) (fun x S1 => ∀ T, lyC l V = some T → S1.2.1 500 5 = false) := by
  subst hk hf
  refine ev_up (fun n => e_X12_canCut_0) ?_
  unfold b_X12_canCut_0
  refine ev_gv ?_
  rw [hl.1]
  have l9 := hl.2.1
  have l1 := hV.1.1.2.1
  refine ev_gg (by first | omega | (constructor <;> omega)) ?_
  refine ev_ite (fun z => ?_) (fun z => ?_)
  · have ln : l ≠ [] := fun e => by rw [e] at z; exact z rfl
    have n1 := nW_pos hp ln
    refine ev_gv ?_
    refine ev_gg (by first | omega | (constructor <;> omega)) ?_
    refine ev_gc (q_plain (d := d - 1) (K := F) (u := nW l) (by omega) rfl hF hl hp (Nat.le_refl _) (by rw [stA_hi (by omega)]; omega) h hV.1) (fun x S1 q => ?_)
    obtain ⟨rfl, f1⟩ := q
    have no := ld_ok (l := l) hV.1 (nW l)
    have pos := ldT_pos (l := l) hV.1.1.1 (pz_l hV.1.2) l1 (by omega)
    have vl := h.2.1
    refine ev_gg (by rcases no with q | q <;> constructor <;> omega) ?_
    by_cases c : ldT l V (nW l) = -1
    · refine ev_ite (fun z => by omega) (fun _ => ?_)
      refine ev_ret (fun T hT => ?_)
      unfold lyC at hT
      rw [if_pos (Or.inl c)] at hT
      cases hT
    · refine ev_ite (fun _ => ?_) (fun z => by omega)
      obtain ⟨i, hi⟩ : ∃ i : Nat, ldT l V (nW l) = (i : Int) := ⟨(ldT l V (nW l)).toNat, by rcases no with q | q <;> omega⟩
      have hil : i < V.length := by rcases no with q | q <;> omega
      have h1 : LK S1 F V := lk_fr h f1 (fun j _ _ => by omega) (by omega)
      rw [hi]
      refine ev_gc (q_taken (d := d - 1) (K := K) (F := F) (I := i) (by omega) rfl hK rfl hF rfl nF hV.1 h1 (by omega) hil) (fun _ S2 q => ?_)
      obtain ⟨q2, f2⟩ := q
      have cs := cut_sdc hV hq vl (show 1 ≤ i by omega) hil
      refine ev_gc (q_link (d := d - 1) (V := cutT V i) (by omega) rfl hK cs.1.1 (fun y hy => (cs.1.2.1 y hy).1) q2.2) (fun _ S3 q => ?_)
      refine ev_ret (fun T _ => ?_)
      rw [fc_b q.2 (by omega)]
      exact q2.1
  · have ln : l = [] := List.length_eq_zero_iff.mp (by omega)
    refine ev_ret (fun T hT => ?_)
    unfold lyC at hT
    rw [ln, if_pos (Or.inr nW_0)] at hT
    cases hT
end RPT5
