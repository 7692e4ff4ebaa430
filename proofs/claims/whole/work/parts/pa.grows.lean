/-! THE REFERENCE grows -/
abbrev gsP (top : Nat) : Nat → Nat → Prop := fun c j => dnP c j ∨ (c = 553 ∧ top ≤ j) ∨ (c = 554 ∧ top ≤ j)
/-- a VALUE with its KEY, and the draws behind it -/
def gKy (f : Nat) (lv sz : Int) (mp : Bool) (st : Int) : List ND × Int := if mp then (kyT (grF f lv sz (dr st)).1 [97 + dv st 5], (grF f lv sz (dr st)).2) else grF f lv sz st
theorem grL_c {f : Nat} {lv sz : Int} {mp : Bool} {n : Nat} {st : Int} : grL (grF f lv sz) mp (n + 1) st = ((gKy f lv sz mp st).1 :: (grL (grF f lv sz) mp n (gKy f lv sz mp st).2).1, (grL (grF f lv sz) mp n (gKy f lv sz mp st).2).2) := by
  cases mp with
  | true => exact grL_t
  | false => exact grL_f
def GvR (d : Nat) (sz : Int) (f : Nat) : Prop := ∀ (lv : Int) (top : Nat) (a1 st : Int) (W : List ND) (mp : Bool) (S : GS) (Q : Int → GS → Prop), 0 ≤ lv → lv + f = 4 → (a1 = 0 ∨ a1 = 2) → a1 + top = lv → (0 ≤ st ∧ st < 65536) → MD S 40 (some W) → S.1 500 83 = st → W.length + bz f ≤ 100 → (∀ S1, MD S1 40 (some (W ++ mny (gKy f lv sz mp st).1)) → S1.1 500 83 = (gKy f lv sz mp st).2 → FC (gsP top) S S1 → Ev (fun n => f_X12_grows n d 38 S1 [a1, sz, (top : Int)]) Q) → Ev (fun n => f_X12_grows n d 104 S [a1, sz, (top : Int), if mp then 1 else 0, sz, lv]) Q
section GRS
variable {S : GS} {d : Nat} {sz : Int}
theorem gKy_ok {f : Nat} {lv st : Int} {mp : Bool} (hsz : 1 ≤ sz ∧ sz ≤ 3) (h0 : 0 ≤ lv) (hl : lv + f = 4) (hf : 1 ≤ f) (hst : 0 ≤ st ∧ st < 65536) : RW (gKy f lv sz mp st).1 ∧ (gKy f lv sz mp st).1.length ≤ bz f ∧ 0 ≤ (gKy f lv sz mp st).2 ∧ (gKy f lv sz mp st).2 < 65536 := by
  have d5 := dv_r (st := st) (n := 5) (by decide)
  cases mp with
  | true =>
    have g := grF_ok hsz f lv (dr st) h0 hl hf dr_r
    refine ⟨rw_ky g.1 (fun x hx => ?_) (show 1 ≤ 12 by decide), ?_, g.2.2.2.2⟩
    · rw [List.mem_singleton] at hx; omega
    · show (kyT (grF f lv sz (dr st)).1 [97 + dv st 5]).length ≤ _
      rw [ky_len g.1.1.1.2.1]
      exact g.2.2.1
  | false =>
    have g := grF_ok hsz f lv st h0 hl hf hst
    exact ⟨g.1, g.2.2.1, g.2.2.2.2⟩
/-- behind the draws of one NODE: the VALUES of a group come -/
theorem gs_more {f : Nat} {lv st1 : Int} {top : Nat} {a1 : Int} {W : List ND} {key : List Int} {S1 : GS} {Q : Int → GS → Prop} (hd : 6 ≤ d) (hsz : 1 ≤ sz ∧ sz ≤ 3) (ih : f ≠ 0 → GvR d sz f) (h0 : 0 ≤ lv) (hl : lv + ((f + 1 : Nat) : Int) = 4) (ha1 : a1 = 0 ∨ a1 = 2) (ht : a1 + top = lv) (hst : 0 ≤ st1 ∧ st1 < 65536) (hW : W.length + bz (f + 1) ≤ 100) (hM : MD S1 40 (some (W ++ [wQ (wZ (gX lv sz st1).1 (gX lv sz st1).2.1) key]))) (c83 : S1.1 500 83 = (gX lv sz st1).2.2) (nx : ∀ S2, MD S2 40 (some (W ++ mny (kyT (grF (f + 1) lv sz st1).1 key))) → S2.1 500 83 = (grF (f + 1) lv sz st1).2 → FC (gsP top) S1 S2 → Ev (fun n => f_X12_grows n d 38 S2 [a1, sz, (top : Int)]) Q) : ((gX lv sz st1).2.1 = 0 → Ev (fun n => f_X12_grows n d 38 S1 [a1, sz, (top : Int)]) Q) ∧ ((gX lv sz st1).2.1 ≠ 0 → ∀ S2, FC (gsP top) S1 S2 → MD S2 40 (some (W ++ [wQ (wZ (gX lv sz st1).1 (gX lv sz st1).2.1) key])) → S2.1 500 83 = (gX lv sz st1).2.2 → S2.1 553 top = (W.length : Int) → S2.1 554 top = ((gX lv sz st1).2.1 : Int) → Ev (fun n => f_X12_grows n d 38 S2 [a1, sz, ((top + 1 : Nat) : Int)]) Q) := by
  have X := gX_ok (lv := lv) (sz := sz) (st := st1) hsz
  have K := grK_r (lv := lv) (st := st1)
  have eF := grF_X (f := f) (lv := lv) (sz := sz) (st := st1)
  have topl : top ≤ 3 := by omega
  constructor
  · intro hz
    refine nx S1 ?_ ?_ fc_rf
    · rw [eF]
      by_cases c : grK lv st1 < 4
      · rw [if_pos c]
        have e : mny (kyT [(gX lv sz st1).1] key) = [wQ (wZ (gX lv sz st1).1 (gX lv sz st1).2.1) key] := by
          rw [hz]
          exact mny_leaf (x := wQ (gX lv sz st1).1 key) X.2.1.1
        rw [e]
        exact hM
      · rw [if_neg c, hz]
        have x4 : 4 ≤ (wQ (gX lv sz st1).1 key).1 := by
          show 4 ≤ (gX lv sz st1).1.1
          rw [X.2.2.1, if_neg c]
          split <;> decide
        have e : mny (kyT (gpN (gX lv sz st1).1 (grL (grF f (lv + 1) sz) (decide (6 ≤ grK lv st1)) 0 (gX lv sz st1).2.2).1 0) key) = [wQ (wZ (gX lv sz st1).1 0) key] := mny_gp (x := wQ (gX lv sz st1).1 key) (E := []) x4 (fun t ht => by cases ht)
        rw [e]
        rw [hz] at hM
        exact hM
    · rw [eF, c83]
      split
      · rfl
      · rw [hz]; rfl
  · intro hz S2 f12 m2 c2 s553 s554
    have c : ¬ grK lv st1 < 4 := fun c => hz (X.2.2.2.2.1 c)
    rw [if_neg c] at eF
    have f1 : f ≠ 0 := by
      intro z
      have := K.2.2 (by omega) (by omega)
      omega
    have gv := ih f1
    have x1 : (gX lv sz st1).1.1 = if grK lv st1 < 6 then 4 else 5 := by rw [X.2.2.1, if_neg c]
    have x4 : 4 ≤ (wQ (gX lv sz st1).1 key).1 := by
      show 4 ≤ (gX lv sz st1).1.1
      rw [x1]
      split <;> decide
    have bs := bz_s (f := f) (by omega) (by omega)
    have b1 := bz_1 f
    obtain ⟨n0, en⟩ : ∃ n0, (gX lv sz st1).2.1 = n0 := ⟨_, rfl⟩
    obtain ⟨x, ex⟩ : ∃ x, (gX lv sz st1).1 = x := ⟨_, rfl⟩
    rw [en, ex] at m2 hM eF
    rw [en] at s554
    rw [ex] at x1 x4
    have n3 : n0 ≤ 3 := by rw [← en]; exact X.2.2.2.1
    have lo := grL_ok (g := grF f (lv + 1) sz) (f := f) (fun st2 h2 => grF_ok hsz f (lv + 1) st2 (by omega) (by omega) (by omega) h2) (decide (6 ≤ grK lv st1)) n0 (gX lv sz st1).2.2 X.2.2.2.2.2
    have ll := grL_len (grF f (lv + 1) sz) (decide (6 ≤ grK lv st1)) n0 (gX lv sz st1).2.2
    obtain ⟨sx0, es⟩ : ∃ s, (gX lv sz st1).2.2 = s := ⟨_, rfl⟩
    rw [es] at lo ll eF c2
    have r0 : 0 ≤ sx0 ∧ sx0 < 65536 := by rw [← es]; exact X.2.2.2.2.2
    have eT : mny (kyT (grF (f + 1) lv sz st1).1 key) = wQ (wZ x n0) key :: ((grL (grF f (lv + 1) sz) (decide (6 ≤ grK lv st1)) n0 sx0).1.map mny).flatten := by
      rw [eF]
      have := mny_gp (x := wQ x key) (E := (grL (grF f (lv + 1) sz) (decide (6 ≤ grK lv st1)) n0 sx0).1) x4 (fun t ht => (lo.1 t ht).1.1)
      rw [ll] at this
      exact this
    have eS : (grF (f + 1) lv sz st1).2 = (grL (grF f (lv + 1) sz) (decide (6 ≤ grK lv st1)) n0 sx0).2 := by rw [eF]
    have lp : ∀ (k : Nat) (S3 : GS) (st3 : Int) (R : List ND), k ≤ 3 → (0 ≤ st3 ∧ st3 < 65536) → MD S3 40 (some (W ++ wQ (wZ x n0) key :: R)) → W.length + 1 + R.length + k * bz f ≤ 100 → S3.1 500 83 = st3 → S3.1 553 top = (W.length : Int) → S3.1 554 top = (k : Int) → FC (gsP top) S1 S3 → R ++ ((grL (grF f (lv + 1) sz) (decide (6 ≤ grK lv st1)) k st3).1.map mny).flatten = ((grL (grF f (lv + 1) sz) (decide (6 ≤ grK lv st1)) n0 sx0).1.map mny).flatten → (grL (grF f (lv + 1) sz) (decide (6 ≤ grK lv st1)) k st3).2 = (grL (grF f (lv + 1) sz) (decide (6 ≤ grK lv st1)) n0 sx0).2 → Ev (fun n => f_X12_grows n d 38 S3 [a1, sz, ((top + 1 : Nat) : Int)]) Q := by
      intro k
      induction k with
      | zero =>
        intro S3 st3 R hk3 h3 m3 hl3 c3 a553 a554 f3 e1 e2
        have e1' : R = ((grL (grF f (lv + 1) sz) (decide (6 ≤ grK lv st1)) n0 sx0).1.map mny).flatten := by rw [← e1]; exact (List.append_nil R).symm
        have e2' : st3 = (grL (grF f (lv + 1) sz) (decide (6 ≤ grK lv st1)) n0 sx0).2 := e2
        refine ev_up (fun n => e_X12_grows_38) ?_
        unfold b_X12_grows_38
        refine ev_gg (by first | omega | (constructor <;> omega)) ?_
        refine ev_ite (fun z => by omega) (fun _ => ?_)
        refine ev_gv ?_
        refine ev_gg (by first | omega | (constructor <;> omega)) ?_
        refine ev_gv ?_
        rw [show (((top + 1 : Nat) : Int) - 1).toNat = top by omega, a554]
        refine ev_gg (by decide) ?_
        refine ev_ite (fun z => absurd rfl z) (fun _ => ?_)
        refine ev_gv ?_
        rw [show ((top + 1 : Nat) : Int) + (-1) = (top : Int) by omega]
        exact nx S3 (by rw [eT, ← e1']; exact m3) (by rw [eS, c3]; exact e2') f3
      | succ k ihk =>
        intro S3 st3 R hk3 h3 m3 hl3 c3 a553 a554 f3 e1 e2
        have f4 : FC (fun c j => c = 554 ∧ j = top) S3 (gI S3 554 top (k : Int)) := fc_gI ⟨rfl, rfl⟩
        have m4 := mdr_fr m3 f4 (fun j _ _ => by omega) (by omega) (by omega)
        have lk : (k + 1) * bz f = k * bz f + bz f := by rw [Nat.add_mul, Nat.one_mul]
        have cr := (m3.2.2.2.1 W.length (by rw [List.length_append, List.length_cons]; omega)).1
        rw [get_mid] at cr
        have kd0 : S3.1 501 (6161 * 40 + 61 * W.length) = x.1 := cr.1
        refine ev_up (fun n => e_X12_grows_38) ?_
        unfold b_X12_grows_38
        refine ev_gg (by first | omega | (constructor <;> omega)) ?_
        refine ev_ite (fun z => by omega) (fun _ => ?_)
        refine ev_gv ?_
        refine ev_gg (by first | omega | (constructor <;> omega)) ?_
        refine ev_gv ?_
        rw [show (((top + 1 : Nat) : Int) - 1).toNat = top by omega, a554]
        refine ev_gg (by first | omega | (constructor <;> omega)) ?_
        refine ev_ite (fun _ => ?_) (fun z => by omega)
        refine ev_gv ?_
        refine ev_gg (by first | omega | (constructor <;> omega)) ?_
        refine ev_gv ?_
        rw [show (((top + 1 : Nat) : Int) - 1).toNat = top by omega, a554]
        refine ev_gv ?_
        rw [show ((k + 1 : Nat) : Int) - 1 = (k : Int) by omega]
        refine ev_gv ?_
        refine ev_gv ?_
        refine ev_gv ?_
        refine ev_gg (by first | omega | (constructor <;> omega)) ?_
        refine ev_gv ?_
        rw [show (((top + 1 : Nat) : Int) - 1).toNat = top by omega, gI_c (by decide), a553]
        refine ev_gg (by first | omega | (constructor <;> omega)) ?_
        refine ev_gcr (q_kind (d := d - 1) (k := 40) (i := (W.length : Int)) (6161 * 40 + 61 * W.length) (by omega) (by omega) (by omega)) ?_
        rw [gI_c (by decide), kd0, x1]
        have go : ∀ mp : Bool, mp = decide (6 ≤ grK lv st1) → Ev (fun n => f_X12_grows n d 104 (gI S3 554 top (k : Int)) [a1, sz, ((top + 1 : Nat) : Int), if mp then 1 else 0, sz, a1 + ((top + 1 : Nat) : Int)]) Q := by
          intro mp hmp
          rw [show a1 + ((top + 1 : Nat) : Int) = lv + 1 by omega]
          have gk := gKy_ok (f := f) (lv := lv + 1) (st := st3) (mp := mp) hsz (by omega) (by omega) (by omega) h3
          refine gv (lv + 1) (top + 1) a1 st3 (W ++ wQ (wZ x n0) key :: R) mp _ Q (by omega) (by omega) ha1 (by omega) h3 m4 (by rw [gI_c (by decide)]; exact c3) (by rw [List.length_append, List.length_cons]; omega) (fun S5 m5 c5 f5 => ?_)
          rw [← hmp] at e1 e2
          rw [grL_c] at e1 e2
          have m5' : MD S5 40 (some (W ++ wQ (wZ x n0) key :: (R ++ mny (gKy f (lv + 1) sz mp st3).1))) := by
            rw [List.append_assoc, List.cons_append] at m5
            exact m5
          refine ihk S5 _ (R ++ mny (gKy f (lv + 1) sz mp st3).1) (by omega) gk.2.2 m5' (by rw [List.length_append, mny_len]; have := gk.2.1; omega) c5 (by rw [fc_i f5 (by omega), fc_i f4 (by omega)]; exact a553) (by rw [fc_i f5 (by omega)]; exact gI_a) (fc_tr f3 (fc_tr (fc_mono f4 (fun c j z => Or.inr (Or.inr ⟨z.1, by omega⟩))) (fc_mono f5 (fun c j z => z.elim Or.inl (fun y => Or.inr (by omega)))))) ?_ ?_
          · rw [← hmp, ← e1, List.map_cons, List.flatten_cons, List.append_assoc]
          · rw [← hmp]
            exact e2
        have i45 : inr (if grK lv st1 < 6 then (4 : Int) else 5) := by split <;> decide
        refine ev_gg (i45) ?_
        refine ev_ite (fun z => ?_) (fun z => ?_)
        · have c6 : grK lv st1 < 6 := by
            by_cases c6 : grK lv st1 < 6
            · exact c6
            · rw [if_neg c6] at z; exact absurd rfl z
          exact go false (decide_eq_false (by omega)).symm
        · have c6 : ¬ grK lv st1 < 6 := fun c6 => z (by rw [if_pos c6]; decide)
          exact go true (decide_eq_true (by omega)).symm
    refine lp n0 S2 sx0 [] n3 r0 m2 (by have : n0 * bz f ≤ 3 * bz f := Nat.mul_le_mul_right _ n3; rw [List.length_nil]; omega) c2 s553 s554 f12 (List.nil_append _) rfl
theorem gs_value (hd : 6 ≤ d) (hsz : 1 ≤ sz ∧ sz ≤ 3) : ∀ f, f ≠ 0 → GvR d sz f
  | 0 => fun z => absurd rfl z
  | f + 1 => fun _ => by
    intro lv top a1 st W mp S Q h0 hl ha1 ht hst hM h83 hW nx
    have b1 := bz_1 (f + 1)
    have st1r : 0 ≤ (if mp then dr st else st) ∧ (if mp then dr st else st) < 65536 := by
      split
      · exact dr_r
      · exact hst
    have X := gX_ok (lv := lv) (sz := sz) (st := if mp then dr st else st) hsz
    have eg : gKy (f + 1) lv sz mp st = (kyT (grF (f + 1) lv sz (if mp then dr st else st)).1 (if mp then [97 + dv st 5] else []), (grF (f + 1) lv sz (if mp then dr st else st)).2) := by
      cases mp with
      | true => rfl
      | false =>
        have g := grF_ok hsz (f + 1) lv st h0 hl (by omega) hst
        have := ky_self g.1.1.1.2.1
        rw [g.2.2.2.1] at this
        show grF (f + 1) lv sz st = (kyT (grF (f + 1) lv sz st).1 [], (grF (f + 1) lv sz st).2)
        rw [this]
    rw [eg] at nx
    refine ev_up (fun n => e_X12_grows_104) ?_
    unfold b_X12_grows_104
    refine ev_gg (by first | omega | (constructor <;> omega)) ?_
    refine ev_gc (q_drawsOne (d := d - 1) (by omega) (by omega) hsz hst hM (by omega) h83) (fun y S3 q => ?_)
    obtain ⟨ye, m3, c3, f3⟩ := q
    have mo := gs_more (S1 := S3) (Q := Q) hd hsz (gs_value hd hsz f) h0 hl ha1 ht st1r hW m3 c3 (fun S2 m2 c2 f2 => nx S2 m2 c2 (fc_tr (fc_mono f3 (fun c j z => Or.inl z)) f2))
    rw [ye]
    have n3 := X.2.2.2.1
    refine ev_gg (by first | omega | (constructor <;> omega)) ?_
    refine ev_ite (fun z => mo.1 (by omega)) (fun z => ?_)
    refine ev_gg (by decide) ?_
    refine ev_gv ?_
    rw [show (40 : Int).toNat = 40 from rfl, m3.2.1]
    refine ev_gv ?_
    refine ev_gg (by first | omega | (constructor <;> omega)) ?_
    refine ev_gv ?_
    rw [Int.toNat_natCast, show (((W ++ [wQ (wZ (gX lv sz (if mp then dr st else st)).1 (gX lv sz (if mp then dr st else st)).2.1) (if mp then [97 + dv st 5] else [])]).length : Nat) : Int) - 1 = (W.length : Int) by rw [List.length_append, List.length_singleton]; omega]
    refine ev_gv ?_
    refine ev_gv ?_
    rw [show (top : Int) + 1 = ((top + 1 : Nat) : Int) by omega]
    have f5 : FC (fun c j => (c = 553 ∧ j = top) ∨ (c = 554 ∧ j = top)) S3 (gI (gI S3 553 top (W.length : Int)) 554 top ((gX lv sz (if mp then dr st else st)).2.1 : Int)) := fc_tr (fc_gI (Or.inl ⟨rfl, rfl⟩)) (fc_gI (Or.inr ⟨rfl, rfl⟩))
    exact mo.2 (by omega) _ (fc_mono f5 (fun c j z => Or.inr (by omega))) (mdr_fr m3 f5 (fun j _ _ => by omega) (by omega) (by omega)) (by rw [fc_i f5 (by omega)]; exact c3) (by rw [gI_c (by decide), gI_a]) gI_a
abbrev gtP : Nat → Nat → Prop := fun c j => dnP c j ∨ doP 41 c j ∨ c = 505 ∨ c = 506 ∨ c = 513 ∨ c = 514 ∨ c = 515 ∨ c = 553 ∨ c = 554
theorem gt_dn {c j : Nat} (z : dnP c j) : gtP c j := Or.inl z
theorem gt_40 {c j : Nat} (z : doP 40 c j) : gtP c j := Or.inl (Or.inl z)
theorem gt_41 {c j : Nat} (z : doP 41 c j) : gtP c j := Or.inr (Or.inl z)
theorem gt_s {c j : Nat} (z : c = 505 ∨ c = 506 ∨ c = 513 ∨ c = 514 ∨ c = 515 ∨ c = 553 ∨ c = 554) : gtP c j := Or.inr (Or.inr z)
theorem gt_gs {c j : Nat} (z : gsP 0 c j) : gtP c j := z.elim gt_dn (fun y => gt_s (by omega))
/-- what grows: the reference -/
theorem q_grows {lv st : Int} {f : Nat} (hd : 11 ≤ d) (hsz : 1 ≤ sz ∧ sz ≤ 3) (hlv : lv = 0 ∨ lv = 2) (hf : lv + f = 4) (hst : 0 ≤ st ∧ st < 65536) (h83 : S.1 500 83 = st) : Ev (fun n => f_X12_grows n d 0 S [lv, sz]) (fun _ S1 => LK S1 41 (nr3 f (grF f lv sz st).1) ∧ FC gtP S S1) := by
  obtain ⟨f, rfl⟩ : ∃ k, f = k + 1 := ⟨f - 1, by omega⟩
  have g := grF_ok hsz (f + 1) lv st (by omega) hf (by omega) hst
  have gs := gr_sdc hsz (by omega) hf (by omega) hst
  have X := gX_ok (lv := lv) (sz := sz) (st := st) hsz
  have b40 : bz (f + 1) ≤ 40 := by
    have : f ≤ 3 := by omega
    match f, this with
    | 0, _ => decide
    | 1, _ => decide
    | 2, _ => decide
    | 3, _ => decide
  have ek : kyT (grF (f + 1) lv sz st).1 [] = (grF (f + 1) lv sz st).1 := by
    have := ky_self g.1.1.1.2.1
    rw [g.2.2.2.1] at this
    exact this
  have ek2 : kyT (nr3 (f + 1) (grF (f + 1) lv sz st).1) [] = nr3 (f + 1) (grF (f + 1) lv sz st).1 := by
    have := ky_self gs.1.1.1.2.1
    rw [gs.2.2.2] at this
    exact this
  have p38 : ∀ S2, MD S2 40 (some ([] ++ mny (kyT (grF (f + 1) lv sz st).1 []))) → FC gtP S S2 → Ev (fun n => f_X12_grows n d 38 S2 [lv, sz, ((0 : Nat) : Int)]) (fun _ S1 => LK S1 41 (nr3 (f + 1) (grF (f + 1) lv sz st).1) ∧ FC gtP S S1) := by
    intro S2 m2 f2
    have mr2 : MR S2 40 (mny (grF (f + 1) lv sz st).1) := by
      have := m2.2
      rw [ek] at this
      exact this
    refine ev_up (fun n => e_X12_grows_38) ?_
    unfold b_X12_grows_38
    refine ev_gg (by decide) ?_
    refine ev_ite (fun _ => ?_) (fun z => absurd (Int.le_refl _) z)
    refine ev_gg (by first | omega | (constructor <;> omega)) ?_
    refine ev_gc (q_link (d := d - 1) (K := 40) (V := (grF (f + 1) lv sz st).1) (by omega) rfl (by decide) g.1.1 (fun y hy => (g.1.2.1 y hy).1) mr2) (fun _ S3 q3 => ?_)
    obtain ⟨l3, f3⟩ := q3
    have l100 := l3.2.1
    refine ev_gc (q_chooseNr (d := d - 1) (F := 40) (K := 41) (w := 3) (by omega) rfl (by decide) rfl (by decide) (by decide) (Or.inr rfl) g.1.1 l3 (fun r => by have := g.2.1 r; omega)) (fun _ S4 q4 => ?_)
    obtain ⟨m4, f4⟩ := q4
    have e13 : nrH (decide ((3 : Int) = 3)) 13 (grF (f + 1) lv sz st).1 = nr3 (f + 1) (grF (f + 1) lv sz st).1 := by
      rw [← nrH_3]
      exact nrH_fuel (h := true) (f + 1) 13 _ g.1.1 (fun r => by have := g.2.1 r; omega) (by omega)
    rw [e13, ek2] at m4
    refine ev_gc (q_link (d := d - 1) (K := 41) (V := nr3 (f + 1) (grF (f + 1) lv sz st).1) (by omega) rfl (by decide) gs.1.1 (fun y hy => (gs.1.2.1 y hy).1) m4.2) (fun _ S5 q5 => ?_)
    obtain ⟨l5, f5⟩ := q5
    have l102 := l5.2.1
    exact ev_ret ⟨l5, fc_tr f2 (fc_tr (fc_mono f3 (fun c j z => z.elim (fun y => gt_40 (Or.inl ⟨y.1, y.2.1, by omega⟩)) (fun y => gt_s (by omega)))) (fc_tr (fc_mono f4 (fun c j z => z.elim gt_41 (fun y => gt_s (by omega)))) (fc_mono f5 (fun c j z => z.elim (fun y => gt_41 (Or.inl ⟨y.1, y.2.1, by omega⟩)) (fun y => gt_s (by omega))))))⟩
  refine ev_up (fun n => e_X12_grows_0) ?_
  unfold b_X12_grows_0
  refine ev_gg (by first | omega | (constructor <;> omega)) ?_
  refine ev_gc (q_begin1 (d := d - 1) (k := 40) (K := 40) rfl (by decide)) (fun _ S3 qb => ?_)
  obtain ⟨m3, f3⟩ := qb
  refine ev_gc (q_drawsOne (mp := false) (d := d - 1) (W := []) (by omega) (by omega) hsz hst m3 (by decide) (by rw [fc_i f3 (by omega)]; exact h83)) (fun y S6 q => ?_)
  obtain ⟨ye, m6, c6, f6⟩ := q
  have f06 : FC gtP S S6 := fc_tr (fc_mono f3 (fun c j z => gt_40 (Or.inr z))) (fc_mono f6 (fun c j z => gt_dn z))
  have mo := gs_more (S1 := S6) (W := []) (key := []) (top := 0) (a1 := lv) (Q := fun _ S1 => LK S1 41 (nr3 (f + 1) (grF (f + 1) lv sz st).1) ∧ FC gtP S S1) (by omega) hsz (gs_value (by omega) hsz f) (by omega) hf hlv (by omega) hst (by rw [List.length_nil]; omega) m6 c6 (fun S2 m2 c2 f2 => p38 S2 m2 (fc_tr f06 (fc_mono f2 (fun c j z => gt_gs z))))
  rw [ye]
  have n3 := X.2.2.2.1
  rw [if_neg (show ¬ (false = true) by decide)]
  refine ev_gg (by first | omega | (constructor <;> omega)) ?_
  refine ev_ite (fun z => mo.1 (by omega)) (fun z => ?_)
  refine ev_gg (by decide) ?_
  refine ev_gv ?_
  refine ev_gv ?_
  have f5 : FC (fun c j => (c = 553 ∧ j = 0) ∨ (c = 554 ∧ j = 0)) S6 (gI (gI S6 553 (0 : Int).toNat 0) 554 (0 : Int).toNat ((gX lv sz st).2.1 : Int)) := fc_tr (fc_gI (Or.inl ⟨rfl, rfl⟩)) (fc_gI (Or.inr ⟨rfl, rfl⟩))
  exact mo.2 (by omega) _ (fc_mono f5 (fun c j z => Or.inr (by omega))) (mdr_fr m6 f5 (fun j _ _ => by omega) (by omega) (by omega)) (by rw [fc_i f5 (by omega)]; exact c6) (by rw [gI_c (by decide)]; exact gI_a) gI_a
end GRS
