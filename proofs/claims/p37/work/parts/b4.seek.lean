/-! PATHS: all that a PATH finds -/
section SK
variable {S S0 : GS} {c a d : Nat} {V : List ND} {l : List Int}
def FkS (a c : Nat) (l : List Int) (V : List ND) (S0 : GS) (L : List Nat) (S : GS) : Prop := TV S c V ∧ RoS a l S ∧ FsL L S ∧ FdL V.length L ∧ Fr skM S0 S ∧ Good S
theorem fk_step {S1 : GS} {L L1 : List Nat} {M : Nat → Prop} (hc : gT c) (ha : gRo a) (h : FkS a c l V S0 L S) (hf : Fr M S S1) (hM : ∀ k, M k → skM k) (hL : FsL L1 S1) (hd : FdL V.length L1) (hG : Good S1) : FkS a c l V S0 L1 S1 := by
  obtain ⟨h1, h2, h3, h4, h5, h6⟩ := h
  have g2 := rS_r ha
  refine ⟨tv_fr h1 hf (fun k a b => fun z => by have := hM k z; unfold skM fnA at this; omega), ro_fr h2 hf (fun z => by have := hM _ z; unfold skM fnA at this; omega) (fun z => by have := hM _ z; unfold skM fnA at this; omega) (fun z => by have := hM _ z; unfold skM fnA at this; omega) (fun z => by have := hM _ z; unfold skM fnA at this; omega), hL, hd, fr_tr h5 (fr_mono hf hM), hG⟩
theorem seek_76 {w : List Int} {L0 : List Nat} {i : Nat} {Q : Int → GS → Prop} (hc : gT c) (ha : gRo a) (hd : 43 ≤ d) (hw : WF V) (hwr : WrOK V) (hwl : w.length ≤ 400) (hw2 : ∀ x ∈ w, x < 256) (hL0 : FdL V.length L0) (hi : i ≤ 500) (nx : ∀ S1, FkS a c l V S0 (skS V w L0) S1 → Ev (fun n => f_X2_seek n d 11 S1 [((c : Nat) : Int), ((a : Nat) : Int), ((i + 1 : Nat) : Int)]) Q) : ∀ (m k : Nat) (L : List Nat) (S : GS), k + m = L0.length → (∀ j, j < L0.length → S.1 475 j = (L0.getD j 0 : Int)) → skS V w L0 = ((L0.drop k).flatMap (stC V w)).foldl mtA L → FkS a c l V S0 L S → SV S 440 w → Ev (fun n => f_X2_seek n d 76 S [((c : Nat) : Int), ((a : Nat) : Int), (i : Int), (L0.length : Int), (k : Int)]) Q := by
  intro m
  induction m with
  | zero =>
    intro k L S h1 h2 h3 h hv
    have l0 := nodup_len _ _ hL0.1 hL0.2
    have lV := tv_l h.1
    rw [List.drop_eq_nil_of_le (by omega)] at h3
    have h3' : skS V w L0 = L := h3
    have k := nx S (by rw [h3']; exact h)
    refine ev_up (fun n => e_X2_seek_76) ?_
    unfold b_X2_seek_76
    repeat' (first
      | with_reducible refine ev_gv ?_
      | with_reducible refine ev_gg ?_ ?_
      | with_reducible refine ev_ite (fun _ => ?_) (fun _ => ?_)
      | omega
      | assumption)
    all_goals exact k
  | succ m ih =>
    intro k L S h1 h2 h3 h hv
    have l0 := nodup_len _ _ hL0.1 hL0.2
    have lV := tv_l h.1
    have hk : k < L0.length := by omega
    have e5 := h2 k hk
    have gk := hL0.2 _ (gDn_mem hk)
    have ed : L0.drop k = L0.getD k 0 :: L0.drop (k + 1) := by
      rw [List.drop_eq_getElem_cons hk, List.getD_eq_getElem?_getD, List.getElem?_eq_getElem hk]
      rfl
    rw [ed, List.flatMap_cons, List.foldl_append] at h3
    have fs : FnS c V w S L S := ⟨h.1, hv, h.2.2.1, h.2.2.2.1, fr_rf, h.2.2.2.2.2⟩
    have st := fn_stepFrom (d := d - 1) hc (by omega) hw gk hwr hwl hw2 fs
    refine ev_up (fun n => e_X2_seek_76) ?_
    unfold b_X2_seek_76
    repeat' (first
      | with_reducible refine ev_gv ?_
      | with_reducible refine ev_gg ?_ ?_
      | with_reducible refine ev_ite (fun _ => ?_) (fun _ => ?_)
      | omega
      | assumption)
    rw [Int.toNat_natCast, e5]
    refine ev_gc st (fun _ S1 q1 => ?_)
    refine ev_gv ?_
    rw [show (k : Int) + 1 = ((k + 1 : Nat) : Int) by omega]
    obtain ⟨q1, q2, q3, q4, q5, q6⟩ := q1
    have h475 : S1.1 475 = S.1 475 := (q5 475 (by unfold fnA; omega)).1
    refine ih (k + 1) _ S1 (by omega) (fun j hj => by rw [h475]; exact h2 j hj) h3 (fk_step hc ha h q5 (fun _ z => Or.inl z) q3 q4 q6) q2
theorem seek_42 {w : List Int} {L0 : List Nat} {i : Nat} {Q : Int → GS → Prop} (hc : gT c) (ha : gRo a) (hd : 44 ≤ d) (hw : WF V) (hwr : WrOK V) (hwl : w.length ≤ 400) (hw2 : ∀ x ∈ w, x < 256) (hi : i ≤ 500) (nx : ∀ S1, FkS a c l V S0 (skS V w L0) S1 → Ev (fun n => f_X2_seek n d 11 S1 [((c : Nat) : Int), ((a : Nat) : Int), ((i + 1 : Nat) : Int)]) Q) : ∀ (m k : Nat) (S : GS), k + m = L0.length → (∀ j, j < k → S.1 475 j = (L0.getD j 0 : Int)) → FkS a c l V S0 L0 S → SV S 440 w → Ev (fun n => f_X2_seek n d 42 S [((c : Nat) : Int), ((a : Nat) : Int), (i : Int), (L0.length : Int), (k : Int)]) Q := by
  intro m
  induction m with
  | zero =>
    intro k S h1 h2 h hv
    have hL0 := h.2.2.2.1
    have l0 := nodup_len _ _ hL0.1 hL0.2
    have lV := tv_l h.1
    refine ev_up (fun n => e_X2_seek_42) ?_
    unfold b_X2_seek_42
    repeat' (first
      | with_reducible refine ev_gv ?_
      | with_reducible refine ev_gg ?_ ?_
      | with_reducible refine ev_ite (fun _ => ?_) (fun _ => ?_)
      | omega
      | assumption)
    refine ev_gc (fn_begin h.2.2.2.2.2) (fun _ S1 q1 => ?_)
    have h475 : S1.1 475 = S.1 475 := (q1.2.1 475 (by unfold fnM; omega)).1
    have h' : FkS a c l V S0 [] S1 := fk_step hc ha h q1.2.1 (fun k z => by unfold fnM at z; unfold skM fnA; omega) q1.1 ⟨List.nodup_nil, fun x hx => by cases hx⟩ q1.2.2
    exact seek_76 (d := d) hc ha (by omega) hw hwr hwl hw2 hL0 hi nx L0.length 0 [] S1 (by omega) (fun j hj => by rw [h475]; exact h2 j (by omega)) rfl h' (sv_fr hv q1.2.1 (by unfold fnM; omega) (by unfold fnM; omega))
  | succ m ih =>
    intro k S h1 h2 h hv
    have hL0 := h.2.2.2.1
    have l0 := nodup_len _ _ hL0.1 hL0.2
    have lV := tv_l h.1
    have hk : k < L0.length := by omega
    have gk := hL0.2 _ (gDn_mem hk)
    have e4 := h.2.2.1.2.1 k hk
    refine ev_up (fun n => e_X2_seek_42) ?_
    unfold b_X2_seek_42
    repeat' (first
      | with_reducible refine ev_gv ?_
      | with_reducible refine ev_gg ?_ ?_
      | with_reducible refine ev_ite (fun _ => ?_) (fun _ => ?_)
      | omega
      | assumption)
    rw [Int.toNat_natCast, e4]
    have fr : Fr (fun k => k = 475) S (gI S 475 k ((L0.getD k 0 : Nat) : Int)) := fr_gI rfl
    have h' := fk_step hc ha h fr (fun k z => Or.inr z) (fs_fr h.2.2.1 fr (by omega) (by omega) (by omega)) hL0 (good_gI h.2.2.2.2.2 (by constructor <;> omega) (fun q => by unfold isC at q; omega))
    rw [show (k : Int) + 1 = ((k + 1 : Nat) : Int) by omega]
    refine ih (k + 1) _ (by omega) (fun j hj => ?_) h' (sv_fr hv fr (by omega) (by omega))
    by_cases q : j = k
    · subst q; rw [gI_a]
    · rw [gI_k q]; exact h2 j (by omega)
theorem wdA_len {k : Nat} : (wdA l k).length ≤ l.length := by
  unfold wdA
  have := une_len ((l.take (stA l ((k : Int) + 1) - 1).toNat).drop (stA l (k : Int)).toNat)
  have h2 : ((l.take (stA l ((k : Int) + 1) - 1).toNat).drop (stA l (k : Int)).toNat).length ≤ l.length := by simp; omega
  omega
theorem wdA_r {k : Nat} (hl : ∀ x ∈ l, 0 ≤ x ∧ x < 256) : ∀ x ∈ wdA l k, 0 ≤ x ∧ x < 256 := fun x hx => une_r (b := 256) (by decide) (fun y hy => hl y (List.mem_of_mem_take (List.mem_of_mem_drop hy))) x hx
theorem seek_11 (hc : gT c) (ha : gRo a) (hd : 45 ≤ d) (hw : WF V) (hwr : WrOK V) (hpt : ptOK l = true) (hl : ∀ x ∈ l, 0 ≤ x ∧ x < 256) : ∀ (f i : Nat) (L : List Nat) (S : GS), i + f = nW l → FkS a c l V S0 L S → Ev (fun n => f_X2_seek n d 11 S [((c : Nat) : Int), ((a : Nat) : Int), (i : Int)]) (fun _ S1 => FkS a c l V S0 (skF l V f i L) S1) := by
  have g1 := rS_g ha
  have g2 := rS_r ha
  have sl := slP_len l 0
  have hs440 : gSh 440 := by decide
  intro f
  induction f with
  | zero =>
    intro i L S h1 h
    have ll := ro_len h.2.1 ha
    have nw : nW l = (slP l 0).length := rfl
    refine ev_up (fun n => e_X2_seek_11) ?_
    unfold b_X2_seek_11
    repeat' (first
      | with_reducible refine ev_gv ?_
      | with_reducible refine ev_gg ?_ ?_
      | with_reducible refine ev_ite (fun _ => ?_) (fun _ => ?_)
      | refine ev_gcr (ro_steps ha h.2.1) ?_
      | omega
      | assumption)
    exact ev_ret h
  | succ f ih =>
    intro i L S h1 h
    have ll := ro_len h.2.1 ha
    have nw : nW l = (slP l 0).length := rfl
    have hL := h.2.2.2.1
    have l0 := nodup_len _ _ hL.1 hL.2
    have lV := tv_l h.1
    have wt := ro_wordTo (d := d - 1) (s := 440) (k := i) ha hs440 (by omega) rfl (by omega) h.2.1 hpt (by omega) h.2.2.2.2.2
    refine ev_up (fun n => e_X2_seek_11) ?_
    unfold b_X2_seek_11
    repeat' (first
      | with_reducible refine ev_gv ?_
      | with_reducible refine ev_gg ?_ ?_
      | with_reducible refine ev_ite (fun _ => ?_) (fun _ => ?_)
      | refine ev_gcr (ro_steps ha h.2.1) ?_
      | omega
      | assumption)
    refine ev_gc wt (fun _ S1 s1 => ?_)
    have h' : FkS a c l V S0 L S1 := fk_step hc ha h s1.2.1 (fun k z => by unfold shM at z; unfold skM fnA; omega) (fs_fr h.2.2.1 s1.2.1 (by unfold shM; omega) (by unfold shM; omega) (by unfold shM; omega)) hL s1.2.2
    rw [h'.2.2.1.1]
    refine ev_gv ?_
    refine ev_gg (by constructor <;> omega) ?_
    refine ev_gv ?_
    rw [show min (L.length : Int) 100 = (L.length : Int) by omega]
    have wl := wdA_len (l := l) (k := i)
    exact seek_42 (d := d) (w := wdA l i) (i := i) hc ha (by omega) hw hwr (by omega) (fun x hx => (wdA_r hl x hx).2) (by omega) (fun S2 q2 => ih (i + 1) _ S2 (by omega) q2) L.length 0 S1 (by omega) (fun j hj => by omega) h' s1.1
theorem fn_seek (hc : gT c) (ha : gRo a) (hd : 46 ≤ d) (hw : WF V) (hwr : WrOK V) (hpt : ptOK l = true) (hl : ∀ x ∈ l, 0 ≤ x ∧ x < 256) (hv : TV S c V) (hV : 1 ≤ V.length) (hr : RoS a l S) (hG : Good S) : Ev (fun n => f_X2_seek n d 0 S [((c : Nat) : Int), ((a : Nat) : Int)]) (fun _ S1 => FsL (seekL l V) S1 ∧ FdL V.length (seekL l V) ∧ Fr skM S S1 ∧ Good S1) := by
  have g2 := rS_r ha
  have lV := tv_l hv
  refine ev_up (fun n => e_X2_seek_0) ?_
  unfold b_X2_seek_0
  refine ev_gg (by omega) ?_
  refine ev_gc (fn_begin hG) (fun _ S1 q1 => ?_)
  have h1 : FkS a c l V S [] S1 := ⟨tv_fr hv q1.2.1 (fun k x y => by unfold fnM; omega), ro_fr hr q1.2.1 (by unfold fnM; omega) (by unfold fnM; omega) (by unfold fnM; omega) (by unfold fnM; omega), q1.1, ⟨List.nodup_nil, fun x hx => by cases hx⟩, fr_mono q1.2.1 (fun k z => by unfold fnM at z; unfold skM fnA; omega), q1.2.2⟩
  refine ev_gc (fn_meet (d := d - 1) (x := 0) h1.2.2.1 h1.2.2.2.2.2 (Or.inr (by omega)) lV h1.2.2.2.1) (fun _ S2 q2 => ?_)
  have h2 : FkS a c l V S [0] S2 := fk_step hc ha h1 q2.2.1 (fun k z => by unfold fnM at z; unfold skM fnA; omega) q2.1 ⟨by simp, fun x hx => by simp only [List.mem_cons, List.not_mem_nil, or_false] at hx; omega⟩ q2.2.2
  refine ev_mono (seek_11 (d := d) hc ha (by omega) hw hwr hpt hl (nW l) 0 [0] S2 (by omega) h2) (fun _ S3 q3 => ?_)
  exact ⟨q3.2.2.1, q3.2.2.2.1, q3.2.2.2.2.1, q3.2.2.2.2.2⟩
end SK
