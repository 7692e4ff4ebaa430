/-! THE REFERENCE grows: one NODE by draws -/
theorem md_val {P : Nat → Nat → Prop} {S S1 : GS} {K m : Nat} {W : List ND} {x y : ND} (h : MD S K (some (W ++ [x]))) (hm : W.length = m) (hx : y.1 = x.1) (hy : NW (wQ (wZ y x.2.1) x.2.2.2.2)) (hn : NuC S1 (6161 * K + 61 * m) y) (hf : FC P S S1) (hP : ∀ j, 6161 * K ≤ j → j < 6161 * K + 6161 → P 501 j → 6161 * K + 61 * m + 18 ≤ j ∧ j < 6161 * K + 61 * m + 61) (h2 : ¬ P 502 K) (h5 : ¬ P 500 5) : MD S1 K (some (W ++ [wQ (wZ y x.2.1) x.2.2.2.2])) := by
  subst hm
  obtain ⟨g1, g2, g3, g4, g5⟩ := h
  have l1 : (W ++ [x]).length = W.length + 1 := by rw [List.length_append]; rfl
  have l2 : (W ++ [wQ (wZ y x.2.1) x.2.2.2.2]).length = W.length + 1 := by rw [List.length_append]; rfl
  rw [l1] at g2 g3 g4
  have no : ∀ j, 6161 * K ≤ j → j < 6161 * K + 6161 → ¬ (6161 * K + 61 * W.length + 18 ≤ j ∧ j < 6161 * K + 61 * W.length + 61) → S1.1 501 j = S.1 501 j := fun j a b c => fc_i hf (fun z => c (hP j a b z))
  refine ⟨by rw [fc_b hf h5]; exact g1, by rw [fc_i hf h2, l2]; exact g2, by rw [l2]; exact g3, fun i hi => ?_, fun z hz => ?_⟩
  · rw [l2] at hi
    have gi := g4 i hi
    rw [getD_push] at gi ⊢
    by_cases e : i < W.length
    · rw [if_pos e] at gi ⊢
      have nw := g5 _ (List.mem_append.mpr (Or.inl (nd_mem e)))
      exact ⟨cr_cp gi.1 ⟨nw.2.2.1.1, nw.2.2.2.1.1⟩ (fun w hw _ => no _ (by omega) (by omega) (by omega)), (no _ (by omega) (by omega) (by omega)).trans gi.2⟩
    · have e2 : i = W.length := by omega
      subst e2
      rw [if_neg e, if_pos rfl] at gi ⊢
      have nx := g5 x (List.mem_append.mpr (Or.inr (List.mem_singleton.mpr rfl)))
      refine ⟨⟨by rw [no _ (by omega) (by omega) (by omega), gi.1.1]; exact hx.symm, by rw [no _ (by omega) (by omega) (by omega), gi.1.2.1]; rfl, fun j hj => ?_, hn.1, hn.2.1, hn.2.2.1, hn.2.2.2⟩, by rw [no _ (by omega) (by omega) (by omega), gi.2]; rfl⟩
      have hj' : j < x.2.2.2.2.length := hj
      have := nx.2.2.2.1.1
      rw [no _ (by omega) (by omega) (by omega)]
      exact gi.1.2.2.1 j hj'
  · rcases List.mem_append.mp hz with q | q
    · exact g5 z (List.mem_append.mpr (Or.inl q))
    · rw [List.mem_singleton] at q
      subst q
      exact hy
theorem ndM_v {k : Int} {q : List Int} : sgN (wQ (ndM k) q) = [] ∧ isN (wQ (ndM k) q) = 0 ∧ pwN (wQ (ndM k) q) = 0 := by
  refine ⟨?_, ?_, ?_⟩
  · unfold sgN wQ ndM
    dsimp only
    split <;> rfl
  · unfold isN wQ ndM
    dsimp only
    split
    · rw [if_neg (by decide), if_pos (Or.inr rfl)]
    · split <;> rfl
  · unfold pwN wQ ndM
    dsimp only
    split <;> rfl
abbrev dnP : Nat → Nat → Prop := fun c j => doP 40 c j ∨ c = 507 ∨ c = 510 ∨ (c = 500 ∧ (j = 13 ∨ j = 83))
section DRW
variable {S : GS} {d : Nat} {W : List ND} {st lv sz : Int}
theorem q_draw {a : Int} (h : S.1 500 83 = st) (hst : 0 ≤ st ∧ st < 65536) (ha : 0 < a ∧ a ≤ 1000) : Ev (fun n => f_X12_draw n d 0 S [a]) (fun x S1 => x = dv st a ∧ S1 = gI S 500 83 (dr st)) := by
  refine ev_up (fun n => e_X12_draw_0) ?_
  unfold b_X12_draw_0
  refine ev_gv ?_
  rw [h]
  refine ev_gv ?_
  refine ev_gv ?_
  refine ev_gg (by omega) ?_
  refine ev_gv ?_
  refine ev_gv ?_
  refine ev_gv ?_
  rw [gI_a]
  refine ev_gg (by omega) ?_
  refine ev_gv ?_
  refine ev_gg (by omega) ?_
  refine ev_gv ?_
  exact ev_ret ⟨rfl, rfl⟩
theorem fc_83 {x : Int} : FC dnP S (gI S 500 83 x) := fc_gI (Or.inr (Or.inr (Or.inr ⟨rfl, Or.inr rfl⟩)))
theorem dw_text {x0 : ND} {m : Nat} {w0 : List Int} {Q : Int → GS → Prop} {S0 : GS} (hd : 2 ≤ d) (hW : W.length < 100) (hk : x0.1 = 3) (h0 : sgN x0 = [] ∧ isN x0 = 0 ∧ pwN x0 = 0) (hw : NW (wQ (wZ (3, 1, 0, w0, []) x0.2.1) x0.2.2.2.2)) (nx : ∀ S1 st1, S1.1 500 83 = st1 → (st1 = (grT m st).2 → MD S1 40 (some (W ++ [wQ (wZ (3, 1, 0, w0, []) x0.2.1) x0.2.2.2.2])) ∧ FC dnP S0 S1) → st1 = (grT m st).2 → Q 0 S1) (hm : m ≤ 3) (he : w0 = (grT m st).1) : ∀ (v i : Nat) (S1 : GS) (stc : Int) (acc : List Int), i + v = m → acc.length = i → (∀ x ∈ acc, 0 ≤ x ∧ x < 256) → acc ++ (grT v stc).1 = (grT m st).1 → (grT v stc).2 = (grT m st).2 → (0 ≤ stc ∧ stc < 65536) → S1.1 500 83 = stc → S1.1 500 13 = (m : Int) → (∀ k, k < i → S1.1 507 k = acc.getD k 0) → MD S1 40 (some (W ++ [x0])) → FC dnP S0 S1 → Ev (fun n => f_X12_drawsOne n d 231 S1 [(W.length : Int), (i : Int)]) Q := by
  intro v
  induction v with
  | zero =>
    intro i S1 stc acc hi ha hr e1 e2 hst c83 c13 c7 hM hf
    have e1' : acc = w0 := by rw [he, ← e1]; exact (List.append_nil acc).symm
    have e2' : stc = (grT m st).2 := e2
    refine ev_up (fun n => e_X12_drawsOne_231) ?_
    unfold b_X12_drawsOne_231
    refine ev_gv ?_
    rw [c13]
    refine ev_gg (by first | omega | (constructor <;> omega)) ?_
    refine ev_gg (by first | omega | (constructor <;> omega)) ?_
    refine ev_ite (fun _ => ?_) (fun z => by omega)
    refine ev_gg (by first | omega | (constructor <;> omega)) ?_
    have wd : WD S1 acc := ⟨by rw [c13, ha]; omega, by omega, fun k hk => c7 k (by omega), hr⟩
    refine ev_gc (q_textIs (d := d - 1) (K := 40) (I := W.length) (by omega) rfl (by decide) rfl (by omega) wd (by omega)) (fun _ S2 q => ?_)
    obtain ⟨t1, t2, f2⟩ := q
    have cr := (hM.2.2.2.1 W.length (by rw [List.length_append, List.length_singleton]; omega)).1
    rw [getD_push, if_neg (by omega), if_pos rfl] at cr
    have sg3 : sgN (3, 1, 0, acc, []) = acc := by
      unfold sgN
      exact if_neg (fun y => absurd (show (3 : Int) = 2 from y.1) (by decide))
    have nu : NuC S2 (6161 * 40 + 61 * W.length) (3, 1, 0, acc, []) := by
      refine ⟨by rw [sg3]; exact t1, ?_, ?_, fun j hj => ?_⟩
      · rw [fc_i f2 (by omega), cr.2.2.2.2.1, h0.2.1]; rfl
      · rw [fc_i f2 (by omega), cr.2.2.2.2.2.1, h0.2.2]; rfl
      · rw [sg3] at hj ⊢
        exact t2 j hj
    rw [e1'] at nu
    have M2 := md_val (y := (3, 1, 0, w0, [])) hM rfl hk.symm hw nu f2 (fun j _ _ z => by omega) (by omega) (by omega)
    exact ev_ret (nx S2 stc (by rw [fc_i f2 (by omega)]; exact c83) (fun _ => ⟨M2, fc_tr hf (fc_mono f2 (fun c j z => by omega))⟩) e2')
  | succ v ih =>
    intro i S1 stc acc hi ha hr e1 e2 hst c83 c13 c7 hM hf
    have d3 := dv_r (st := stc) (n := 3) (by decide)
    refine ev_up (fun n => e_X12_drawsOne_231) ?_
    unfold b_X12_drawsOne_231
    refine ev_gv ?_
    rw [c13]
    refine ev_gg (by first | omega | (constructor <;> omega)) ?_
    refine ev_gg (by first | omega | (constructor <;> omega)) ?_
    refine ev_ite (fun z => by omega) (fun _ => ?_)
    refine ev_gg (by first | omega | (constructor <;> omega)) ?_
    refine ev_gc (q_draw (d := d - 1) c83 hst (by decide)) (fun y S2 q => ?_)
    obtain ⟨ye, se⟩ := q
    subst ye se
    refine ev_gv ?_
    refine ev_gg (by first | omega | (constructor <;> omega)) ?_
    refine ev_gv ?_
    rw [Int.toNat_natCast]
    refine ev_gv ?_
    rw [show (i : Int) + 1 = ((i + 1 : Nat) : Int) by omega]
    have f2 : FC (fun c j => c = 507 ∨ (c = 500 ∧ j = 83)) S1 (gI (gI S1 500 83 (dr stc)) 507 i (97 + dv stc 3)) := fc_tr (fc_gI (Or.inr ⟨rfl, rfl⟩)) (fc_gI (Or.inl rfl))
    refine ih (i + 1) _ (dr stc) (acc ++ [97 + dv stc 3]) (by omega) (by rw [List.length_append, ha]; rfl) (fun x hx => ?_) ?_ e2 dr_r (by rw [gI_c (by decide), gI_a]) (by rw [gI_c (by decide), gI_k (by decide)]; exact c13) (fun k hk => ?_) (mdr_fr hM f2 (fun j _ _ => by omega) (by omega) (by omega)) (fc_tr hf (fc_mono f2 (fun c j z => by omega)))
    · rcases List.mem_append.mp hx with z | z
      · exact hr x z
      · rw [List.mem_singleton] at z
        omega
    · rw [List.append_assoc]
      exact e1
    · rw [getD_snoc (by omega)]
      by_cases c : k = i
      · rw [if_pos (by omega), c, gI_a]
      · rw [if_neg (by omega), gI_k c, gI_c (by decide)]
        exact c7 k (by omega)
theorem q_drawsOne {mp : Bool} (hd : 4 ≤ d) (hlv : 0 ≤ lv ∧ lv ≤ 3) (hsz : 1 ≤ sz ∧ sz ≤ 3) (hst : 0 ≤ st ∧ st < 65536) (hM : MD S 40 (some W)) (hl : W.length < 100) (h83 : S.1 500 83 = st) : Ev (fun n => f_X12_drawsOne n d 0 S [lv, sz, if mp then 1 else 0]) (fun x S1 => x = ((gX lv sz (if mp then dr st else st)).2.1 : Int) ∧ MD S1 40 (some (W ++ [wQ (wZ (gX lv sz (if mp then dr st else st)).1 (gX lv sz (if mp then dr st else st)).2.1) (if mp then [97 + dv st 5] else [])])) ∧ S1.1 500 83 = (gX lv sz (if mp then dr st else st)).2.2 ∧ FC dnP S S1) := by
  have d5 := dv_r (st := st) (n := 5) (by decide)
  have ks : ∃ (key : List Int) (st1 : Int), key = (if mp then [97 + dv st 5] else []) ∧ st1 = (if mp then dr st else st) ∧ (0 ≤ st1 ∧ st1 < 65536) := ⟨_, _, rfl, rfl, by split; exact dr_r; exact hst⟩
  obtain ⟨key, st1, hkey, hst1, r1⟩ := ks
  rw [← hkey, ← hst1]
  have kr : key.length ≤ 1 ∧ ∀ y ∈ key, 0 ≤ y ∧ y < 256 := by
    rw [hkey]
    cases mp with
    | true => exact ⟨show 1 ≤ 1 by decide, fun y hy => by rw [if_pos rfl, List.mem_singleton] at hy; omega⟩
    | false => exact ⟨show 0 ≤ 1 by decide, fun y hy => by cases hy⟩
  have K := grK_r (lv := lv) (st := st1)
  have X := gX_ok (lv := lv) (sz := sz) (st := st1) hsz
  have nwX : ∀ z : Nat, z ≤ 1000 → NW (wQ (wZ (gX lv sz st1).1 z) key) := fun z hz => by
    obtain ⟨yn, _⟩ := X.1
    exact ⟨⟨yn.1, yn.2.1⟩, hz, ⟨yn.2.2.2.2.2.2.1, yn.2.2.2.2.2.2.2.1⟩, ⟨by have := kr.1; show key.length ≤ 12; omega, kr.2⟩, yn.2.2.2.2.1, yn.2.2.2.2.2.1⟩
  have p109 : ∀ S3, MD S3 40 (some (W ++ [wQ (ndM (if grK lv st1 < 4 then grK lv st1 else if grK lv st1 < 6 then 4 else 5)) key])) → S3.1 500 83 = dr st1 → FC dnP S S3 → Ev (fun n => f_X12_drawsOne n d 109 S3 [sz, grK lv st1, (W.length : Int)]) (fun x S1 => x = ((gX lv sz st1).2.1 : Int) ∧ MD S1 40 (some (W ++ [wQ (wZ (gX lv sz st1).1 (gX lv sz st1).2.1) key])) ∧ S1.1 500 83 = (gX lv sz st1).2.2 ∧ FC dnP S S1) := by
    intro S3 m3 c83 f3
    have cr := (m3.2.2.2.1 W.length (by rw [List.length_append, List.length_singleton]; omega)).1
    rw [getD_push, if_neg (by omega), if_pos rfl] at cr
    have nv := ndM_v (k := (if grK lv st1 < 4 then grK lv st1 else if grK lv st1 < 6 then 4 else 5)) (q := key)
    have eX : gX lv sz st1 = if grK lv st1 = 0 then (ndK 0, 0, dr st1)
      else if grK lv st1 = 1 then ((1, 1, if dv (dr st1) 2 = 1 then 1 else 0, [], []), 0, dr (dr st1))
      else if grK lv st1 = 2 then ((2, 1, nmPw (wnum (dv (dr st1) 1000)) (dv (dr (dr st1)) 5 - 2), nmSg 0 (wnum (dv (dr st1) 1000)), []), 0, dr (dr (dr st1)))
      else if grK lv st1 = 3 then ((3, 1, 0, (grT (dv (dr st1) 4).toNat (dr (dr st1))).1, []), 0, (grT (dv (dr st1) 4).toNat (dr (dr st1))).2)
      else (ndK (if grK lv st1 < 6 then 4 else 5), (dv (dr st1) (sz + 1)).toNat, dr (dr st1)) := rfl
    have d1 := dr_r (st := st1)
    have d2 := dr_r (st := dr st1)
    refine ev_up (fun n => e_X12_drawsOne_109) ?_
    unfold b_X12_drawsOne_109
    refine ev_gg (by first | omega | (constructor <;> omega)) ?_
    refine ev_ite (fun y1 => ?_) (fun y1 => ?_)
    · rw [if_neg y1] at eX
      refine ev_ite (fun y2 => ?_) (fun y2 => ?_)
      · rw [if_neg y2] at eX
        refine ev_ite (fun y3 => ?_) (fun y3 => ?_)
        · rw [if_neg y3] at eX
          refine ev_ite (fun y4 => ?_) (fun y4 => ?_)
          · have e0 : grK lv st1 = 0 := by omega
            rw [if_pos e0] at eX
            rw [if_pos (by omega), e0] at m3
            refine ev_ret ?_
            rw [eX]
            exact ⟨rfl, m3, c83, f3⟩
          · rw [if_neg (show ¬ grK lv st1 = 0 by omega)] at eX
            rw [if_neg (show ¬ grK lv st1 < 4 by omega)] at m3
            have v1 := dv_r (st := dr st1) (n := sz + 1) (by omega)
            refine ev_gv ?_
            refine ev_gg (by first | omega | (constructor <;> omega)) ?_
            refine ev_gc (q_draw (d := d - 1) c83 d1 (by omega)) (fun y S4 q => ?_)
            obtain ⟨ye, se⟩ := q
            subst ye se
            refine ev_gcr (q_at) ?_
            refine ev_gv ?_
            refine ev_gg (by first | omega | (constructor <;> omega)) ?_
            refine ev_gv ?_
            rw [show ((101 * (40 : Int) + (W.length : Int)) * 61 + 3).toNat = 6161 * 40 + 61 * W.length + 3 by omega]
            have f4 : FC (fun c j => c = 500 ∧ j = 83) S3 (gI S3 500 83 (dr (dr st1))) := fc_gI ⟨rfl, rfl⟩
            have m4 := mdr_fr m3 f4 (fun j _ _ => by omega) (by omega) (by omega)
            have m5 := md_set3 (K := 40) (i := W.length) (v := (dv (dr st1) (sz + 1)).toNat) m4 (by omega) (by omega)
            have ev : (((dv (dr st1) (sz + 1)).toNat : Nat) : Int) = dv (dr st1) (sz + 1) := by omega
            rw [ev] at m5
            refine ev_ret ?_
            rw [eX]
            refine ⟨ev.symm, ?_, by rw [gI_c (by decide), gI_a], fc_tr f3 (fc_tr (fc_mono f4 (fun c j z => by omega)) (fc_gI (Or.inl (Or.inl ⟨rfl, by omega, by omega⟩))))⟩
            have es : (some (W ++ [wQ (ndM (if grK lv st1 < 6 then 4 else 5)) key])).map (fun W' => W'.set W.length (wZ (W'.getD W.length nd0) (dv (dr st1) (sz + 1)).toNat)) = some (W ++ [wQ (wZ (ndK (if grK lv st1 < 6 then 4 else 5)) (dv (dr st1) (sz + 1)).toNat) key]) := by
              show some ((W ++ [wQ (ndM (if grK lv st1 < 6 then 4 else 5)) key]).set W.length (wZ ((W ++ [wQ (ndM (if grK lv st1 < 6 then 4 else 5)) key]).getD W.length nd0) (dv (dr st1) (sz + 1)).toNat)) = _
              rw [set_end, get_end]
              rfl
            rw [es] at m5
            exact m5
        · have e3 : grK lv st1 = 3 := by omega
          rw [if_neg (show ¬ grK lv st1 = 0 by omega), if_pos e3] at eX
          rw [if_pos (by omega), e3] at m3
          have v1 := dv_r (st := dr st1) (n := 4) (by decide)
          refine ev_gg (by first | omega | (constructor <;> omega)) ?_
          refine ev_gc (q_draw (d := d - 1) c83 d1 (by decide)) (fun y S4 q => ?_)
          obtain ⟨ye, se⟩ := q
          subst ye se
          refine ev_gv ?_
          obtain ⟨m, em⟩ : ∃ m : Nat, dv (dr st1) 4 = (m : Int) := ⟨(dv (dr st1) 4).toNat, by omega⟩
          have eX2 : gX lv sz st1 = ((3, 1, 0, (grT m (dr (dr st1))).1, []), 0, (grT m (dr (dr st1))).2) := by rw [eX, em, Int.toNat_natCast]
          rw [em]
          have f4 : FC (fun c j => c = 500 ∧ (j = 83 ∨ j = 13)) S3 (gI (gI S3 500 83 (dr (dr st1))) 500 13 (m : Int)) := fc_tr (fc_gI ⟨rfl, Or.inl rfl⟩) (fc_gI ⟨rfl, Or.inr rfl⟩)
          have nwx := nwX 0 (by decide)
          rw [eX2] at nwx
          refine dw_text (x0 := wQ (ndM 3) key) (m := m) (w0 := (grT m (dr (dr st1))).1) (st := dr (dr st1)) (S0 := S) (by omega) hl rfl ndM_v nwx (fun S5 st5 c5 k5 e5 => ?_) (by omega) rfl m 0 _ (dr (dr st1)) [] (by omega) rfl (fun x hx => by cases hx) rfl rfl dr_r (by rw [gI_k (by decide), gI_a]) gI_a (fun k hk => by omega) (mdr_fr m3 f4 (fun j _ _ => by omega) (by omega) (by omega)) (fc_tr f3 (fc_mono f4 (fun c j z => by omega)))
          rw [eX2]
          exact ⟨rfl, (k5 e5).1, by rw [c5]; exact e5, (k5 e5).2⟩
      · have e2 : grK lv st1 = 2 := by omega
        rw [if_neg (show ¬ grK lv st1 = 0 by omega), if_pos e2] at eX
        rw [if_pos (by omega), e2] at m3
        have v1 := dv_r (st := dr st1) (n := 1000) (by decide)
        have v2 := dv_r (st := dr (dr st1)) (n := 5) (by decide)
        refine ev_gg (by first | omega | (constructor <;> omega)) ?_
        refine ev_gc (q_draw (d := d - 1) c83 d1 (by decide)) (fun y S4 q => ?_)
        obtain ⟨ye, se⟩ := q
        subst ye se
        refine ev_gc (q_draw (d := d - 1) (st := dr (dr st1)) gI_a d2 (by decide)) (fun y S5 q => ?_)
        obtain ⟨ye, se⟩ := q
        subst ye se
        refine ev_gv ?_
        refine ev_gg (by omega) ?_
        refine ev_gv ?_
        refine ev_gg (by decide) ?_
        refine ev_gv ?_
        refine ev_gg (by omega) ?_
        refine ev_gv ?_
        refine ev_gg (by omega) ?_
        refine ev_gv ?_
        refine ev_gg (by decide) ?_
        refine ev_gv ?_
        refine ev_gg (by omega) ?_
        refine ev_gv ?_
        refine ev_gg (by decide) ?_
        refine ev_gv ?_
        have f6 : FC (fun c j => c = 510 ∨ (c = 500 ∧ j = 83)) S3 (gI (gI (gI (gI (gI S3 500 83 (dr (dr st1))) 500 83 (dr (dr (dr st1)))) 510 (0 : Int).toNat (dv (dr st1) 1000 / 100)) 510 (1 : Int).toNat (dv (dr st1) 1000 / 10 % 10)) 510 (2 : Int).toNat (dv (dr st1) 1000 % 10)) := fc_tr (fc_gI (Or.inr ⟨rfl, rfl⟩)) (fc_tr (fc_gI (Or.inr ⟨rfl, rfl⟩)) (fc_tr (fc_gI (Or.inl rfl)) (fc_tr (fc_gI (Or.inl rfl)) (fc_gI (Or.inl rfl)))))
        have c0 : (gI (gI (gI (gI (gI S3 500 83 (dr (dr st1))) 500 83 (dr (dr (dr st1)))) 510 (0 : Int).toNat (dv (dr st1) 1000 / 100)) 510 (1 : Int).toNat (dv (dr st1) 1000 / 10 % 10)) 510 (2 : Int).toNat (dv (dr st1) 1000 % 10)).1 510 0 = dv (dr st1) 1000 / 100 := by rw [gI_k (by decide), gI_k (by decide)]; exact gI_a
        have c1 : (gI (gI (gI (gI (gI S3 500 83 (dr (dr st1))) 500 83 (dr (dr (dr st1)))) 510 (0 : Int).toNat (dv (dr st1) 1000 / 100)) 510 (1 : Int).toNat (dv (dr st1) 1000 / 10 % 10)) 510 (2 : Int).toNat (dv (dr st1) 1000 % 10)).1 510 1 = dv (dr st1) 1000 / 10 % 10 := by rw [gI_k (by decide)]; exact gI_a
        have c2 : (gI (gI (gI (gI (gI S3 500 83 (dr (dr st1))) 500 83 (dr (dr (dr st1)))) 510 (0 : Int).toNat (dv (dr st1) 1000 / 100)) 510 (1 : Int).toNat (dv (dr st1) 1000 / 10 % 10)) 510 (2 : Int).toNat (dv (dr st1) 1000 % 10)).1 510 2 = dv (dr st1) 1000 % 10 := gI_a
        have c83' : (gI (gI (gI (gI (gI S3 500 83 (dr (dr st1))) 500 83 (dr (dr (dr st1)))) 510 (0 : Int).toNat (dv (dr st1) 1000 / 100)) 510 (1 : Int).toNat (dv (dr st1) 1000 / 10 % 10)) 510 (2 : Int).toNat (dv (dr st1) 1000 % 10)).1 500 83 = dr (dr (dr st1)) := by rw [gI_c (by decide), gI_c (by decide), gI_c (by decide), gI_a]
        generalize gI (gI (gI (gI (gI S3 500 83 (dr (dr st1))) 500 83 (dr (dr (dr st1)))) 510 (0 : Int).toNat (dv (dr st1) 1000 / 100)) 510 (1 : Int).toNat (dv (dr st1) 1000 / 10 % 10)) 510 (2 : Int).toNat (dv (dr st1) 1000 % 10) = S6 at f6 c0 c1 c2 c83' ⊢
        have fg := F3_fg v1
        have dg : DgS S6 (F3 (dv (dr st1) 1000)) := ⟨⟨by rw [fg.2]; decide, fg.1⟩, fun i hi => by
          rw [fg.2] at hi
          match i, hi with
          | 0, _ => rw [c0]; show _ = 48 + dv (dr st1) 1000 / 100 - 48; omega
          | 1, _ => rw [c1]; show _ = 48 + dv (dr st1) 1000 / 10 % 10 - 48; omega
          | 2, _ => rw [c2]; show _ = 48 + dv (dr st1) 1000 % 10 - 48; omega⟩
        refine ev_gc (q_isNumber (d := d - 1) (I := W.length) (F := F3 (dv (dr st1) 1000)) (q := []) (neg := 0) (m := 3) (p := dv (dr (dr st1)) 5 - 2) (by omega) rfl (by omega) (Or.inl rfl) (by rw [fg.2]; rfl) (by rw [fg.2]; decide) (by omega) dg) (fun y S7 q => ?_)
        obtain ⟨q1, q2, f7⟩ := q
        have nu := q2 (num3_ok v1 (by omega))
        have n3 := num3 (p := dv (dr (dr st1)) 5 - 2) v1
        rw [n3.1, n3.2] at nu
        have m6 := mdr_fr m3 f6 (fun j _ _ => by omega) (by omega) (by omega)
        have nwx := nwX 0 (by decide)
        rw [eX] at nwx
        have M7 := md_val (y := (2, 1, nmPw (wnum (dv (dr st1) 1000)) (dv (dr (dr st1)) 5 - 2), nmSg 0 (wnum (dv (dr st1) 1000)), [])) m6 rfl rfl nwx nu f7 (fun j _ _ z => by omega) (by omega) (by omega)
        refine ev_ret ?_
        rw [eX]
        exact ⟨rfl, M7, by rw [fc_i f7 (by omega)]; exact c83', fc_tr f3 (fc_tr (fc_mono f6 (fun c j z => by omega)) (fc_mono f7 (fun c j z => by omega)))⟩
    · have e1 : grK lv st1 = 1 := by omega
      rw [if_neg (show ¬ grK lv st1 = 0 by omega), if_pos e1] at eX
      rw [if_pos (by omega), e1] at m3
      have v1 := dv_r (st := dr st1) (n := 2) (by decide)
      refine ev_gg (by first | omega | (constructor <;> omega)) ?_
      refine ev_gcr (q_at) ?_
      refine ev_gv ?_
      refine ev_gc (q_draw (d := d - 1) c83 d1 (by decide)) (fun y S4 q => ?_)
      obtain ⟨ye, se⟩ := q
      subst ye se
      refine ev_gg (by first | omega | (constructor <;> omega)) ?_
      refine ev_gv ?_
      rw [show ((101 * (40 : Int) + (W.length : Int)) * 61 + 19).toNat = 6161 * 40 + 61 * W.length + 19 by omega]
      have ev : (if dv (dr st1) 2 = 1 then (1 : Int) else 0) = dv (dr st1) 2 := by
        by_cases z : dv (dr st1) 2 = 1
        · rw [if_pos z]; exact z.symm
        · rw [if_neg z]; omega
      rw [ev] at eX
      have f4 : FC (fun c j => (c = 500 ∧ j = 83) ∨ (c = 501 ∧ j = 6161 * 40 + 61 * W.length + 19)) S3 (gI (gI S3 500 83 (dr (dr st1))) 501 (6161 * 40 + 61 * W.length + 19) (dv (dr st1) 2)) := fc_tr (fc_gI (Or.inl ⟨rfl, rfl⟩)) (fc_gI (Or.inr ⟨rfl, rfl⟩))
      have nwx := nwX 0 (by decide)
      rw [eX] at nwx
      have nu : NuC (gI (gI S3 500 83 (dr (dr st1))) 501 (6161 * 40 + 61 * W.length + 19) (dv (dr st1) 2)) (6161 * 40 + 61 * W.length) (1, 1, dv (dr st1) 2, [], []) := by
        refine ⟨?_, gI_a, ?_, fun j hj => absurd hj (Nat.not_lt_zero j)⟩
        · rw [fc_i f4 (by omega), cr.2.2.2.1, nv.1]; rfl
        · rw [fc_i f4 (by omega), cr.2.2.2.2.2.1, nv.2.2]; rfl
      have M4 := md_val (y := (1, 1, dv (dr st1) 2, [], [])) m3 rfl rfl nwx nu f4 (fun j _ _ z => by omega) (by omega) (by omega)
      refine ev_ret ?_
      rw [eX]
      exact ⟨rfl, M4, by rw [gI_c (by decide), gI_a], fc_tr f3 (fc_mono f4 (fun c j z => by omega))⟩
  have p79 : ∀ (S1 : GS) (k4 k : Int), k = (if grK lv st1 < 4 then grK lv st1 else if grK lv st1 < 6 then 4 else 5) → (mp = true → k4 = 97 + dv st 5) → MD S1 40 (some W) → S1.1 500 83 = dr st1 → FC dnP S S1 → Ev (fun n => f_X12_drawsOne n d 79 S1 [sz, if mp then 1 else 0, k4, grK lv st1, k, 40]) (fun x S1 => x = ((gX lv sz st1).2.1 : Int) ∧ MD S1 40 (some (W ++ [wQ (wZ (gX lv sz st1).1 (gX lv sz st1).2.1) key])) ∧ S1.1 500 83 = (gX lv sz st1).2.2 ∧ FC dnP S S1) := by
    intro S1 k4 k hk hk4 m1 c83 f1
    have k05 : 0 ≤ k ∧ k ≤ 5 := by
      rw [hk]
      split
      · omega
      · split <;> decide
    refine ev_up (fun n => e_X12_drawsOne_79) ?_
    unfold b_X12_drawsOne_79
    refine ev_gg (by first | omega | (constructor <;> omega)) ?_
    refine ev_gc (q_added (d := d - 1) (K := 40) (by omega) rfl (by decide) k05 m1) (fun y S3 q => ?_)
    obtain ⟨m3, f3, ye⟩ := q
    rw [m1.2.1] at ye
    subst ye
    have m3' : MD S3 40 (some (W ++ [ndM k])) := by
      have e : apM (some W) [ndM k] = some (W ++ [ndM k]) := by
        unfold apM
        dsimp only
        rw [List.length_singleton, if_pos (by omega)]
      rw [e] at m3
      exact m3
    have g83 : S3.1 500 83 = dr st1 := by rw [fc_i f3 (by omega)]; exact c83
    have f03 : FC dnP S S3 := fc_tr f1 (fc_mono f3 (fun c j z => by omega))
    cases mp with
    | false =>
      refine ev_gg (by decide) ?_
      refine ev_ite (fun _ => ?_) (fun z => absurd rfl z)
      refine p109 S3 ?_ g83 f03
      rw [← hk, hkey]
      exact m3'
    | true =>
      refine ev_gg (by decide) ?_
      refine ev_ite (fun z => absurd z (by decide)) (fun _ => ?_)
      refine ev_gg (by decide) ?_
      refine ev_gv ?_
      refine ev_gv ?_
      have ek := hk4 rfl
      have f4 : FC (fun c j => c = 507 ∨ (c = 500 ∧ j = 13)) S3 (gI (gI S3 507 (0 : Int).toNat k4) 500 13 1) := fc_tr (fc_gI (Or.inl rfl)) (fc_gI (Or.inr ⟨rfl, rfl⟩))
      have wd : WD (gI (gI S3 507 (0 : Int).toNat k4) 500 13 1) [k4] := ⟨gI_a, show 1 ≤ 900 by decide, fun i hi => by
        rw [List.length_singleton] at hi
        have : i = 0 := by omega
        subst this
        rw [gI_c (by decide)]
        exact gI_a, fun x hx => by rw [List.mem_singleton] at hx; omega⟩
      refine ev_gc (q_keyIs (d := d - 1) (K := 40) (I := W.length) (by omega) rfl (by decide) rfl (by omega) wd (show 1 ≤ 12 by decide) (mdr_fr m3' f4 (fun j _ _ => by omega) (by omega) (by omega))) (fun _ S5 q5 => ?_)
      obtain ⟨m5, f5⟩ := q5
      refine p109 S5 ?_ (by rw [fc_i f5 (by omega), fc_i f4 (by omega)]; exact g83) (fc_tr f03 (fc_tr (fc_mono f4 (fun c j z => by omega)) (fc_mono f5 (fun c j z => by omega))))
      rw [← hk, hkey, if_pos rfl, ← ek]
      have es : (some (W ++ [ndM k])).map (fun W' => W'.set W.length (wQ (W'.getD W.length nd0) [k4])) = some (W ++ [wQ (ndM k) [k4]]) := by
        show some ((W ++ [ndM k]).set W.length (wQ ((W ++ [ndM k]).getD W.length nd0) [k4])) = _
        rw [set_end, get_end]
      rw [es] at m5
      exact m5
  have p51 : ∀ (S1 : GS) (k4 : Int), (mp = true → k4 = 97 + dv st 5) → MD S1 40 (some W) → S1.1 500 83 = dr st1 → FC dnP S S1 → Ev (fun n => f_X12_drawsOne n d 51 S1 [sz, if mp then 1 else 0, k4, grK lv st1]) (fun x S1 => x = ((gX lv sz st1).2.1 : Int) ∧ MD S1 40 (some (W ++ [wQ (wZ (gX lv sz st1).1 (gX lv sz st1).2.1) key])) ∧ S1.1 500 83 = (gX lv sz st1).2.2 ∧ FC dnP S S1) := by
    intro S1 k4 hk4 m1 c83 f1
    refine ev_up (fun n => e_X12_drawsOne_51) ?_
    unfold b_X12_drawsOne_51
    refine ev_gg (by first | omega | (constructor <;> omega)) ?_
    refine ev_ite (fun y => ?_) (fun y => ?_)
    · refine ev_ite (fun y2 => ?_) (fun y2 => ?_)
      · exact p79 S1 k4 5 (by rw [if_neg (by omega), if_neg (by omega)]) hk4 m1 c83 f1
      · exact p79 S1 k4 4 (by rw [if_neg (by omega), if_pos (by omega)]) hk4 m1 c83 f1
    · exact p79 S1 k4 _ (by rw [if_pos (by omega)]) hk4 m1 c83 f1
  have p16 : ∀ (S1 : GS) (k4 : Int), (mp = true → k4 = 97 + dv st 5) → MD S1 40 (some W) → S1.1 500 83 = st1 → FC dnP S S1 → Ev (fun n => f_X12_drawsOne n d 16 S1 [lv, sz, if mp then 1 else 0, k4]) (fun x S1 => x = ((gX lv sz st1).2.1 : Int) ∧ MD S1 40 (some (W ++ [wQ (wZ (gX lv sz st1).1 (gX lv sz st1).2.1) key])) ∧ S1.1 500 83 = (gX lv sz st1).2.2 ∧ FC dnP S S1) := by
    intro S1 k4 hk4 m1 c83 f1
    have fin : ∀ t : Int, t = grK lv st1 → Ev (fun n => f_X12_drawsOne n d 51 (gI S1 500 83 (dr st1)) [sz, if mp then 1 else 0, k4, t]) (fun x S1 => x = ((gX lv sz st1).2.1 : Int) ∧ MD S1 40 (some (W ++ [wQ (wZ (gX lv sz st1).1 (gX lv sz st1).2.1) key])) ∧ S1.1 500 83 = (gX lv sz st1).2.2 ∧ FC dnP S S1) := by
      intro t ht
      subst ht
      have f2 : FC (fun c j => c = 500 ∧ j = 83) S1 (gI S1 500 83 (dr st1)) := fc_gI ⟨rfl, rfl⟩
      exact p51 _ k4 hk4 (mdr_fr m1 f2 (fun j _ _ => by omega) (by omega) (by omega)) gI_a (fc_tr f1 (fc_mono f2 (fun c j z => by omega)))
    refine ev_up (fun n => e_X12_drawsOne_16) ?_
    unfold b_X12_drawsOne_16
    refine ev_gg (by first | omega | (constructor <;> omega)) ?_
    refine ev_ite (fun y => ?_) (fun y => ?_)
    · refine ev_ite (fun y2 => ?_) (fun y2 => ?_)
      · refine ev_gg (by first | omega | (constructor <;> omega)) ?_
        refine ev_gc (q_draw (d := d - 1) c83 r1 (by decide)) (fun y S4 q => ?_)
        obtain ⟨ye, se⟩ := q
        subst ye se
        refine fin _ ?_
        unfold grK
        rw [if_neg (show ¬ (lv = 0 ∨ 3 ≤ lv) by omega), if_neg y]
        omega
      · refine ev_gg (by first | omega | (constructor <;> omega)) ?_
        refine ev_gc (q_draw (d := d - 1) c83 r1 (by decide)) (fun y S4 q => ?_)
        obtain ⟨ye, se⟩ := q
        subst ye se
        refine fin _ ?_
        unfold grK
        rw [if_pos (show lv = 0 ∨ 3 ≤ lv by omega), if_neg y]
        omega
    · refine ev_gg (by first | omega | (constructor <;> omega)) ?_
      refine ev_gc (q_draw (d := d - 1) c83 r1 (by decide)) (fun y S4 q => ?_)
      obtain ⟨ye, se⟩ := q
      subst ye se
      refine ev_gv ?_
      refine fin _ ?_
      unfold grK
      rw [if_pos (show lv = 0 ∨ 3 ≤ lv by omega), if_pos (show lv = 0 by omega)]
      omega
  cases mp with
  | false =>
    refine ev_up (fun n => e_X12_drawsOne_0) ?_
    unfold b_X12_drawsOne_0
    refine ev_gg (by decide) ?_
    refine ev_ite (fun _ => ?_) (fun z => absurd rfl z)
    exact p16 S 0 (fun z => absurd z (by decide)) hM (by rw [hst1]; exact h83) fc_rf
  | true =>
    refine ev_up (fun n => e_X12_drawsOne_0) ?_
    unfold b_X12_drawsOne_0
    refine ev_gg (by decide) ?_
    refine ev_ite (fun z => absurd z (by decide)) (fun _ => ?_)
    refine ev_gg (by first | omega | (constructor <;> omega)) ?_
    refine ev_gc (q_draw (d := d - 1) h83 hst (by decide)) (fun y S4 q => ?_)
    obtain ⟨ye, se⟩ := q
    subst ye se
    refine ev_gv ?_
    have f2 : FC (fun c j => c = 500 ∧ j = 83) S (gI S 500 83 (dr st)) := fc_gI ⟨rfl, rfl⟩
    exact p16 _ _ (fun _ => rfl) (mdr_fr hM f2 (fun j _ _ => by omega) (by omega) (by omega)) (by rw [hst1]; exact gI_a) fc_83
end DRW
