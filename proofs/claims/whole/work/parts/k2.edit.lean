/-! THE REFERENCE: PUT and CUT -/
theorem md_gN {S : GS} {K a : Nat} {x : Int} (h : MD S K none) : MD (gI S 501 a x) K none := ⟨h.1, by obtain ⟨m, p, q⟩ := h.2; exact ⟨m, p, by rw [gI_c (by decide)]; exact q⟩⟩
theorem apM_some {W : List ND} (h : W.length ≤ 100) : apM (some []) W = some W := by
  unfold apM
  dsimp only
  rw [if_pos (by rw [List.length_nil]; omega)]
  rfl
theorem apM_none {W : List ND} (h : 100 < W.length) : apM (some []) W = none := by
  unfold apM
  dsimp only
  rw [if_neg (by rw [List.length_nil]; omega)]
section RPC
variable {S : GS} {d K F : Nat} {V : List ND} {l : List Int}
theorem q_taken {k f i : Int} {I : Nat} (hd : 5 ≤ d) (hk : k = (K : Int)) (hK : K < 48) (hf : f = (F : Int)) (hF : F < 48) (hi : i = (I : Int)) (nF : F ≠ K) (hV : TR V ∧ PZL V) (h : LK S F V) (h1 : 1 ≤ I) (hI : I < V.length) : Ev (fun n => f_X12_taken n d 0 S [k, f, i]) (fun _ S1 => MD S1 K (some (mny (cutT V I))) ∧ FC (doP K) S S1) := by
  subst hk hf hi
  have hz := pz_l hV.2
  have wi := hV.1.1.1 I hI
  have zi := hz I
  have l := h.2.1
  obtain ⟨o, p, e1, e2, e3, e4, e5, e6, e7, e8⟩ := cut_parts hV h1 hI
  have ho : o < V.length := by omega
  have eu : cutT V I = updF (fun c => gpN (c.getD 0 nd0) ((kd (sg V o)).take p ++ [] ++ (kd (sg V o)).drop (p + 1)) ((kd (sg V o)).take p ++ [] ++ (kd (sg V o)).drop (p + 1)).length) V.length V o := by
    unfold cutT
    rw [e1, e2, Int.toNat_natCast, Int.toNat_natCast]
    refine upd_same V.length V o (Nat.le_refl _) hV ho ?_
    unfold delT
    rw [List.append_nil]
  have gm := grp_mny (V := V) (o := o) (a := I) (g := nz V I) (E1 := (kd (sg V o)).take p) (M := [sg V I]) (E2 := (kd (sg V o)).drop (p + 1)) (N := []) hV ho e5 e8 e7 (by simp [sg_len hV.1.1 hI]) (fun t ht => by cases ht)
  rw [← eu] at gm
  have lw := (cut_spl hV h1 hI e1).2.2
  have lk : (kd (sg V o)).length = (kids V o).length := by rw [kd_sg hV.2 hV.1.1 ho, List.length_map]
  have ln : ((kd (sg V o)).take p ++ [] ++ (kd (sg V o)).drop (p + 1)).length = (kids V o).length - 1 := by
    rw [List.append_nil, List.length_append, List.length_take, List.length_drop, lk]
    omega
  have mo : (mny V).getD o nd0 = wZ (V.getD o nd0) (kids V o).length := by rw [mny_at ho, lk]
  have kl := kids_le hV.1.1 hz (g := o)
  have wo := hV.1.1.1 o ho
  refine ev_up (fun n => e_X12_taken_0) ?_
  unfold b_X12_taken_0
  refine ev_gg (by first | omega | (constructor <;> omega)) ?_
  refine ev_gc (q_begin1 (d := d - 1) (K := K) rfl hK) (fun _ S1 q1 => ?_)
  have f1 : FC (doP K) S S1 := fc_mono q1.2 (fun c j z => by omega)
  refine ev_gc (q_copies (d := d - 1) (K := K) (F := F) (A := 0) (E := I) (W0 := mny V) (by omega) rfl hK rfl hF rfl rfl (by omega) (by rw [mny_len]; omega) nF (lk_mr hV.1.1 hV.2 (lk_fr h f1 (fun j _ _ => by omega) (by omega))) q1.1) (fun _ S2 q2 => ?_)
  obtain ⟨q2, f2⟩ := q2
  rw [seg_0, Nat.sub_zero] at q2
  have f2' : FC (doP K) S S2 := fc_tr f1 f2
  have h2 : LK S2 F V := lk_fr h f2' (fun j _ _ => by omega) (by omega)
  refine ev_gcr (q_endL (d := d - 1) (K := F) (I := I) (by omega) rfl hF rfl h2 hI) ?_
  refine ev_gg (by first | omega | (constructor <;> omega)) ?_
  refine ev_gv ?_
  rw [Int.toNat_natCast, h2.1]
  refine ev_gc (q_copies (d := d - 1) (K := K) (F := F) (A := I + nz V I) (E := V.length) (W0 := mny V) (by omega) rfl hK rfl hF rfl rfl (by omega) (by rw [mny_len]; omega) nF (lk_mr hV.1.1 hV.2 h2) q2) (fun _ S3 q3 => ?_)
  obtain ⟨q3, f3⟩ := q3
  have e5' := seg_e (A := mny V) (i := I + nz V I)
  rw [mny_len] at e5'
  have lW : ((mny V).take I ++ (mny V).drop (I + nz V I)).length ≤ 100 := by
    rw [List.length_append, List.length_take, List.length_drop, mny_len]
    omega
  rw [e5', apM_app, apM_some lW] at q3
  have f3' : FC (doP K) S S3 := fc_tr f2' f3
  have h3 : LK S3 F V := lk_fr h f3' (fun j _ _ => by omega) (by omega)
  refine ev_gcr (q_parentL (d := d - 1) (K := F) (I := I) (by omega) rfl hF rfl h3 hI) ?_
  rw [e1]
  refine ev_gcr (q_at) ?_
  refine ev_gv ?_
  refine ev_gg (by first | omega | (constructor <;> omega)) ?_
  refine ev_gv ?_
  refine ev_gv ?_
  refine ev_gv ?_
  rw [show ((101 * (K : Int) + (o : Int)) * 61 + 3).toNat = 6161 * K + 61 * o + 3 by omega]
  have oW : o < ((mny V).take I ++ (mny V).drop (I + nz V I)).length := by
    rw [List.length_append, List.length_take, mny_len]
    omega
  have gW : ((mny V).take I ++ (mny V).drop (I + nz V I)).getD o nd0 = wZ (V.getD o nd0) (kids V o).length := by
    rw [getD_append, if_pos (by rw [List.length_take, mny_len]; omega), List.getD_eq_getElem?_getD, List.getElem?_take, if_pos e3, ← List.getD_eq_getElem?_getD, mo]
  have rd := (q3.2.2.2.1 o oW).2
  rw [gW] at rd
  rw [rd, show ((wZ (V.getD o nd0) (kids V o).length).2.1 : Int) - 1 = (((kids V o).length - 1 : Nat) : Int) by show ((kids V o).length : Int) - 1 = _; omega]
  have q4 := md_set3 (i := o) (v := (kids V o).length - 1) q3 (by omega) (by omega)
  refine ev_ret ⟨?_, fc_tr f3' (fc_gI (Or.inl ⟨rfl, by omega, by omega⟩))⟩
  rw [gm, ln]
  dsimp only [Option.map] at q4
  rw [gW] at q4
  simp only [List.map_nil, List.flatten_nil, List.append_nil]
  exact q4
abbrev cpP (K : Nat) : Nat → Nat → Prop := fun c j => doP K c j ∨ plP c j ∨ c = 505 ∨ c = 506
theorem q_canCut {k f : Int} (hd : 9 ≤ d) (hk : k = (K : Int)) (hK : K < 48) (hf : f = (F : Int)) (hF : F < 48) (nF : F ≠ K) (hV : SDC V) (hq : rq V = []) (h : LK S F V) (hl : PaS S l) (hp : isP l) : Ev (fun n => f_X12_canCut n d 0 S [k, f]) (fun x S1 => x = (match lyC l V with | none => 0 | some _ => 1) ∧ (∀ T, lyC l V = some T → LK S1 K T) ∧ FC (cpP K) S S1) := by
  subst hk hf
  refine ev_up (fun n => e_X12_canCut_0) ?_
  unfold b_X12_canCut_0
  refine ev_gv ?_
  rw [hl.1]
  have l9 := hl.2.1
  have l1 := hV.1.1.2.1
  refine ev_gg (by first | omega | (constructor <;> omega)) ?_
  refine ev_ite (fun z => ?_) (fun z => ?_)
  · have ln : l ≠ [] := fun e => by rw [e] at z; exact z rfl
    have n1 := nW_pos hp ln
    refine ev_gv ?_
    refine ev_gg (by first | omega | (constructor <;> omega)) ?_
    refine ev_gc (q_plain (d := d - 1) (K := F) (u := nW l) (by omega) rfl hF hl hp (Nat.le_refl _) (by rw [stA_hi (by omega)]; omega) h hV.1) (fun x S1 q => ?_)
    obtain ⟨rfl, f1⟩ := q
    have no := ld_ok (l := l) hV.1 (nW l)
    have pos := ldT_pos (l := l) hV.1.1.1 (pz_l hV.1.2) l1 (by omega)
    have vl := h.2.1
    have f1' : FC (cpP K) S S1 := fc_mono f1 (fun c j z => by omega)
    refine ev_gg (by rcases no with q | q <;> constructor <;> omega) ?_
    unfold lyC
    by_cases c : ldT l V (nW l) = -1
    · rw [if_pos (Or.inl c)]
      refine ev_ite (fun z => by omega) (fun _ => ?_)
      exact ev_ret ⟨rfl, (fun T hT => by cases hT), f1'⟩
    · rw [if_neg (by omega)]
      refine ev_ite (fun _ => ?_) (fun z => by omega)
      obtain ⟨i, hi⟩ : ∃ i : Nat, ldT l V (nW l) = (i : Int) := ⟨(ldT l V (nW l)).toNat, by rcases no with q | q <;> omega⟩
      have hil : i < V.length := by rcases no with q | q <;> omega
      have h1 : LK S1 F V := lk_fr h f1' (fun j _ _ => by omega) (by omega)
      rw [hi, Int.toNat_natCast]
      refine ev_gc (q_taken (d := d - 1) (K := K) (F := F) (I := i) (by omega) rfl hK rfl hF rfl nF hV.1 h1 (by omega) hil) (fun _ S2 q => ?_)
      obtain ⟨q2, f2⟩ := q
      have cs := cut_sdc hV hq vl (show 1 ≤ i by omega) hil
      refine ev_gc (q_link (d := d - 1) (V := cutT V i) (by omega) rfl hK cs.1.1 (fun y hy => (cs.1.2.1 y hy).1) q2.2) (fun _ S3 q => ?_)
      refine ev_ret ⟨rfl, (fun T hT => by cases hT; exact q.1), fc_tr f1' (fc_tr (fc_mono f2 (fun c j z => Or.inl z)) (fc_mono q.2 (fun c j z => ?_)))⟩
      have := cs.2.2
      omega
  · have ln : l = [] := List.length_eq_zero_iff.mp (by omega)
    have e : lyC l V = none := by unfold lyC; rw [ln, if_pos (Or.inr nW_0)]
    rw [e]
    exact ev_ret ⟨rfl, (fun T hT => by cases hT), fc_rf⟩
end RPC
