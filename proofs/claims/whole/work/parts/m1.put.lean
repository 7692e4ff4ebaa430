/-! THE REFERENCE's both, put, cut -/
theorem upd_dp {h : List ND → List ND} : ∀ (f : Nat) (T : List ND) (o : Nat) (b : Int), T.length ≤ f → TR T ∧ PZL T → o < T.length → TR (h (sg T o)) ∧ PZL (h (sg T o)) → (∀ b' : Int, (∀ g, dpS g (sg T o) ≤ b') → ∀ g, dpS g (h (sg T o)) ≤ b') → (∀ g, dpS g T ≤ b) → ∀ g, dpS g (updF h f T o) ≤ b
  | 0, T, o, b, hl, ht, ho, _, _, _ => by have := ht.1.2.1; omega
  | f + 1, T, 0, b, hl, ht, ho, hp, hh, hd => by
    rw [sg_self ht.1] at hh
    rw [updF_0]
    exact hh b hd
  | f + 1, T, i + 1, b, hl, ht, ho, hp, hh, hd => by
    obtain ⟨A, c, B, e1, e2, e3, e4, e5, e6, e7⟩ := upd_step (h := h) (f := f) ht ho
    have mc : c ∈ kd T := by rw [e1]; exact List.mem_append_right _ List.mem_cons_self
    have hc := kd_tr ht.1 ht.2 c mc
    have lc := mem_len mc
    have lk := len_kd ht
    rw [e4] at hp hh
    rw [e5]
    have b1 : 1 ≤ b := by
      have := hd 0
      unfold dpS at this
      rw [if_pos e7] at this
      exact this
    obtain ⟨b', rfl⟩ : ∃ b', b = b' + 1 := ⟨b - 1, by omega⟩
    have erq : ∀ t, t ∈ A ++ updF h f c (i - A.flatten.length) :: B → t ∈ A ++ c :: B ∨ t = updF h f c (i - A.flatten.length) := fun t hh => by
      rcases List.mem_append.mp hh with w | w
      · exact Or.inl (List.mem_append_left _ w)
      · rcases List.mem_cons.mp w with w | w
        · exact Or.inr w
        · exact Or.inl (List.mem_append_right _ (List.mem_cons_of_mem _ w))
    refine dp_gp (by omega) (fun t ht2 => ?_) (fun t ht2 => ?_)
    · rcases erq t ht2 with w | w
      · exact kd_tr ht.1 ht.2 t (by rw [e1]; exact w)
      · rw [w]
        exact (upd_tr f c _ (by omega) hc (by omega) hp).1
    · rcases erq t ht2 with w | w
      · exact dp_kd hd e7 (by rw [e1]; exact w)
      · rw [w]
        exact upd_dp f c _ b' (by omega) hc (by omega) hp hh (dp_kd hd e7 mc)
theorem cut_doc {V : List ND} {i : Nat} (h : DOC V) (h1 : 1 ≤ i) (hi : i < V.length) : DOC (cutT V i) := by
  have cs := cut_sdc h.1 h.2.2.2 h.2.2.1 h1 hi
  refine ⟨cs.1, ?_, cs.2.2, cs.2.1⟩
  obtain ⟨o, p, e1, e2, e3, e4, e5, e6, e7, e8⟩ := cut_parts h.1.1 h1 hi
  have ho : o < V.length := by omega
  have hs := doc_sg h ho
  have r4 := rk4 h.1.1 ho
  have eu : cutT V i = updF (delT p) V.length V o := by
    unfold cutT
    rw [e1, e2, Int.toNat_natCast, Int.toNat_natCast]
  have sb : ∀ u ∈ (kd (sg V o)).take p ++ (kd (sg V o)).drop (p + 1), u ∈ kd (sg V o) := fun u hu => by
    rcases List.mem_append.mp hu with w | w
    · exact List.mem_of_mem_take w
    · exact List.mem_of_mem_drop w
  rw [eu]
  refine upd_dp V.length V o 12 (Nat.le_refl _) h.1.1 ho (del_sdc hs.1 (by rw [r4]; exact e5) hs.2.2).1 (fun b' hb => ?_) h.2.1
  have b1 : 1 ≤ b' := by
    have := hb 0
    unfold dpS at this
    rw [r4, if_pos e5] at this
    exact this
  obtain ⟨b2, rfl⟩ : ∃ b2, b' = b2 + 1 := ⟨b' - 1, by omega⟩
  unfold delT
  exact dp_gp (by omega) (fun t ht => kd_tr hs.1.1.1 hs.1.1.2 t (sb t ht)) (fun t ht => dp_kd hb (by rw [r4]; exact e5) (sb t ht))
theorem lyC_doc {l : List Int} {V T : List ND} (h : DOC V) (e : lyC l V = some T) : DOC T := by
  unfold lyC at e
  by_cases c : ldT l V (nW l) = -1 ∨ nW l = 0
  · rw [if_pos c] at e; cases e
  · rw [if_neg c] at e
    have no := ld_ok (l := l) h.1.1 (nW l)
    have pos := ldT_pos (l := l) h.1.1.1.1 (pz_l h.1.1.2) h.1.1.1.2.1 (by omega)
    cases e
    exact cut_doc h (by omega) (by rcases no with q | q <;> omega)
theorem lyP_doc {l : List Int} {V T t : List ND} (h : DOC V) (hl : rng l) (ht : SDC t) (e : lyP l V t = some T) : DOC T := by
  unfold lyP at e
  cases hz : aimS l V with
  | none => rw [hz] at e; cases e
  | some z =>
    rw [hz] at e
    dsimp only at e
    by_cases c : pOK (putT l V z t)
    · rw [if_pos c] at e
      cases e
      have := put_sdc h.1 h.2.2.2 hl ht hz c.1
      exact ⟨this.1, dp_all 13 _ 12 c.2 (by decide), c.1, this.2⟩
    · rw [if_neg c] at e; cases e
section PCB
variable {S0 S S1 : GS} {T0 : List ND} {Ds : List (List ND)} {pg pp : List Int} {r : Int} {L : List Nat} {Q : List (List Int)} {C : List (Int × Int)} {d : Nat}
theorem r_pathOfPage (h : RfS S0 T0 Ds pg pp r L Q C S) : Ev (fun n => f_X12_pathOfPage n d 0 S []) (fun _ S1 => PaS S1 pg ∧ S1.1 500 0 = S.1 500 0 ∧ FC paP S S1 ∧ RfS S0 T0 Ds pg pp r L Q C S1) :=
  ev_mono (q_pathOfPage h.2.1.1 h.2.1.2.1 h.2.1.2.2.1 h.2.1.2.2.2) (fun x S1 q => ⟨q.1, fc_i q.2 (by omega), q.2, rf_sc h q.2 (fun c j z => by omega)⟩)
/-- the PAGE is used up, what was made is kept -/
theorem r_keepWipe {k : Int} {K : Nat} {W : List ND} (hd : 1 ≤ d) (hk : k = (K : Int)) (hK : 40 ≤ K ∧ K < 48) (h : RfS S0 T0 Ds pg pp r L Q C S) (hl : Ds.length < 40) (hv : LK S K W) (hW : DOC W) (t : S.1 500 0 = 0) : Ev (fun n => gv (gI S 500 7 0) fun S_7 => gc (f_X12_keeps n d 0 S_7 [k]) fun x9 S_10 => some (x9, S_10)) (fun x S1 => x = (Ds.length : Int) ∧ S1.1 500 0 = 0 ∧ RfS S0 T0 (Ds ++ [W]) [] pp r L Q C S1) := by
  refine ev_gv ?_
  have h1 : RfS S0 T0 Ds [] pp r L Q C (gI S 500 7 0) := rf_page h (fc_gI (Or.inl ⟨rfl, rfl⟩)) ⟨gI_a, by decide, fun i hi => absurd hi (Nat.not_lt_zero i), fun x hx => by cases hx⟩
  have v1 : LK (gI S 500 7 0) K W := lk_fr hv (fc_gI (P := fun c j => c = 500 ∧ j = 7) ⟨rfl, rfl⟩) (fun j _ _ => by omega) (by omega)
  refine ev_gc (r_keeps (d := d) hd hk hK h1 hl v1 hW) (fun x S2 q => ?_)
  exact ev_ret ⟨q.1, by rw [q.2.1, gI_k (by decide)]; exact t, q.2.2⟩
theorem r_put {a b : Int} (hd : 12 ≤ d) (ha : inr a) (hb : inr b) (h : RfS S0 T0 Ds pg pp r L Q C S) : Ev (fun n => f_X12_put n d 0 S [a, b]) (fun x S1 => if hasD Ds a ∧ hasD Ds b then (if Ds.length < 40 ∧ isP pg ∧ (lyP pg (atD' Ds a) (atD' Ds b)).isSome = true then x = (Ds.length : Int) ∧ S1.1 500 0 = 0 ∧ RfS S0 T0 (Ds ++ [(lyP pg (atD' Ds a) (atD' Ds b)).getD []]) [] pp r L Q C S1 else S1.1 500 0 = 2 ∧ RfS S0 T0 Ds pg pp r L Q C S1) else S1.1 500 0 = 1 ∧ RfS S0 T0 Ds pg pp r L Q C S1) := by
  have p22 : ∀ s : Int, s = (if hasD Ds a ∧ hasD Ds b then 1 else 0) → Ev (fun n => f_X12_put n d 22 S [a, b, s]) (fun x S1 => if hasD Ds a ∧ hasD Ds b then (if Ds.length < 40 ∧ isP pg ∧ (lyP pg (atD' Ds a) (atD' Ds b)).isSome = true then x = (Ds.length : Int) ∧ S1.1 500 0 = 0 ∧ RfS S0 T0 (Ds ++ [(lyP pg (atD' Ds a) (atD' Ds b)).getD []]) [] pp r L Q C S1 else S1.1 500 0 = 2 ∧ RfS S0 T0 Ds pg pp r L Q C S1) else S1.1 500 0 = 1 ∧ RfS S0 T0 Ds pg pp r L Q C S1) := by
    intro s hs
    refine ev_up (fun n => e_X12_put_22) ?_
    unfold b_X12_put_22
    refine ev_gg (by first | omega | (constructor <;> omega)) ?_
    refine fa_c hs h (fun c S1 t1 f1 h1 => ?_) (fun c S1 t1 f1 h1 => ?_)
    · refine ev_gg (by decide) ?_
      refine ev_ite (fun _ => ?_) (fun z => by omega)
      simp only [if_pos c]
      refine ev_gc (r_pathOfPage (d := d - 1) h1) (fun _ S2 q2 => ?_)
      obtain ⟨pa, t2, f2, h2⟩ := q2
      rw [t1] at t2
      have n4 := h2.1.2.1
      obtain ⟨e1, e2, e3, e4⟩ := r_at h2 c.1
      obtain ⟨g1, g2, g3, g4⟩ := r_at h2 c.2
      have lb := g4.1.1.1.2.1
      have sb := sg_selT g4.1.1.1
      generalize atD' Ds a = V at *
      generalize atD' Ds b = U at *
      have no : ¬ (Ds.length < 40 ∧ isP pg ∧ (lyP pg V U).isSome = true) → ∀ S3, RfS S0 T0 Ds pg pp r L Q C S3 → Ev (fun n => f_X12_put n d 69 S3 [0]) (fun x S1 => if Ds.length < 40 ∧ isP pg ∧ (lyP pg V U).isSome = true then x = (Ds.length : Int) ∧ S1.1 500 0 = 0 ∧ RfS S0 T0 (Ds ++ [(lyP pg V U).getD []]) [] pp r L Q C S1 else S1.1 500 0 = 2 ∧ RfS S0 T0 Ds pg pp r L Q C S1) := by
        intro nn S3 h3
        refine ev_up (fun n => e_X12_put_69) ?_
        unfold b_X12_put_69
        refine ev_gg (by first | omega | (constructor <;> omega)) ?_
        refine fa_c (p := False) (by rw [if_neg (fun z => z)]) h3 (fun z => z.elim) (fun _ S4 t4 f4 h4 => ?_)
        refine ev_gg (by decide) ?_
        refine ev_ite (fun z => by omega) (fun _ => ?_)
        refine ev_ret ?_
        rw [if_neg nn]
        exact ⟨t4, h4⟩
      refine ev_gv ?_
      rw [h2.1.1]
      refine ev_gg (by first | omega | (constructor <;> omega)) ?_
      refine ev_ite (fun z => ?_) (fun z => ?_)
      · exact no (fun y => by omega) S2 h2
      · refine ev_gcr (q_isPath (d := d - 1) pa) ?_
        by_cases hp : isP pg
        · rw [if_pos hp]
          refine ev_gg (by decide) ?_
          refine ev_ite (fun z => by omega) (fun _ => ?_)
          refine ev_gc (q_canPut (d := d - 1) (K := 40) (F := a.toNat) (G := b.toNat) (J := 0) (by omega) rfl (by decide) e1 (by omega) g1 (by omega) rfl (by omega) (by omega) e4.1 e4.2.2.2 g4.1 lb e3 g3 pa hp) (fun x S3 q3 => ?_)
          obtain ⟨x3, v3, f3⟩ := q3
          rw [sb] at x3 v3
          have h3 := rf_sc h2 f3 (fun c j z => by omega)
          have t3 : S3.1 500 0 = 0 := by rw [fc_i f3 (by omega)]; exact t2
          cases hY : lyP pg V U with
          | none =>
            rw [hY] at x3 no
            have x0 : x = 0 := x3
            subst x0
            refine ev_gg (by decide) ?_
            refine ev_ite (fun _ => ?_) (fun z => by omega)
            exact no (fun y => by have := y.2.2; cases this) S3 h3
          | some W =>
            rw [hY] at x3
            have x1 : x = 1 := x3
            subst x1
            have vW := v3 W hY
            have dW := lyP_doc e4 (fun y hy => pa.2.2.2 y hy) g4.1 hY
            refine ev_gg (by decide) ?_
            refine ev_ite (fun z => by omega) (fun _ => ?_)
            refine ev_up (fun n => e_X12_put_69) ?_
            unfold b_X12_put_69
            refine ev_gg (by first | omega | (constructor <;> omega)) ?_
            refine fa_c (p := True) (by rw [if_pos trivial]) h3 (fun _ S4 t4 f4 h4 => ?_) (fun z => absurd trivial z)
            refine ev_gg (by decide) ?_
            refine ev_ite (fun _ => ?_) (fun z => by omega)
            refine ev_mono (r_keepWipe (d := d - 1) (K := 40) (W := W) (by omega) rfl (by decide) h4 (by omega) (lk_fr vW f4 (fun j _ _ => by omega) (by omega)) dW t4) (fun x S5 q5 => ?_)
            rw [if_pos ⟨by omega, hp, rfl⟩]
            exact q5
        · rw [if_neg hp]
          refine ev_gg (by decide) ?_
          refine ev_ite (fun _ => ?_) (fun z => by omega)
          exact no (fun y => hp y.2.1) S2 h2
    · refine ev_gg (by decide) ?_
      refine ev_ite (fun z => by omega) (fun _ => ?_)
      refine ev_ret ?_
      rw [if_neg c]
      exact ⟨t1, h1⟩
  refine ev_up (fun n => e_X12_put_0) ?_
  unfold b_X12_put_0
  refine ev_gg (by first | omega | (constructor <;> omega)) ?_
  refine ev_gcr (r_isDoc (d := d - 1) (by omega) ha h) ?_
  by_cases c : hasD Ds a
  · rw [if_pos c]
    refine ev_gg (by decide) ?_
    refine ev_ite (fun z => by omega) (fun _ => ?_)
    refine ev_gcr (r_isDoc (d := d - 1) (by omega) hb h) ?_
    by_cases c2 : hasD Ds b
    · rw [if_pos c2]
      refine ev_gg (by decide) ?_
      refine ev_ite (fun z => by omega) (fun _ => ?_)
      exact p22 1 (by rw [if_pos ⟨c, c2⟩])
    · rw [if_neg c2]
      refine ev_gg (by decide) ?_
      refine ev_ite (fun _ => ?_) (fun z => by omega)
      exact p22 0 (by rw [if_neg (fun z => c2 z.2)])
  · rw [if_neg c]
    refine ev_gg (by decide) ?_
    refine ev_ite (fun _ => ?_) (fun z => by omega)
    exact p22 0 (by rw [if_neg (fun z => c z.1)])
theorem r_cut {a : Int} (hd : 12 ≤ d) (ha : inr a) (h : RfS S0 T0 Ds pg pp r L Q C S) : Ev (fun n => f_X12_cut n d 0 S [a]) (fun x S1 => if hasD Ds a then (if Ds.length < 40 ∧ isP pg ∧ (lyC pg (atD' Ds a)).isSome = true then x = (Ds.length : Int) ∧ S1.1 500 0 = 0 ∧ RfS S0 T0 (Ds ++ [(lyC pg (atD' Ds a)).getD []]) [] pp r L Q C S1 else S1.1 500 0 = 2 ∧ RfS S0 T0 Ds pg pp r L Q C S1) else S1.1 500 0 = 1 ∧ RfS S0 T0 Ds pg pp r L Q C S1) := by
  refine ev_up (fun n => e_X12_cut_0) ?_
  unfold b_X12_cut_0
  refine ev_gg (by first | omega | (constructor <;> omega)) ?_
  refine ev_gcr (r_isDoc (d := d - 1) (by omega) ha h) ?_
  refine fa_c rfl h (fun c S1 t1 f1 h1 => ?_) (fun c S1 t1 f1 h1 => ?_)
  · refine ev_gg (by decide) ?_
    refine ev_ite (fun _ => ?_) (fun z => by omega)
    simp only [if_pos c]
    refine ev_gc (r_pathOfPage (d := d - 1) h1) (fun _ S2 q2 => ?_)
    obtain ⟨pa, t2, f2, h2⟩ := q2
    rw [t1] at t2
    have n4 := h2.1.2.1
    obtain ⟨e1, e2, e3, e4⟩ := r_at h2 c
    generalize atD' Ds a = V at *
    have no : ¬ (Ds.length < 40 ∧ isP pg ∧ (lyC pg V).isSome = true) → ∀ S3, RfS S0 T0 Ds pg pp r L Q C S3 → Ev (fun n => f_X12_cut n d 51 S3 [0]) (fun x S1 => if Ds.length < 40 ∧ isP pg ∧ (lyC pg V).isSome = true then x = (Ds.length : Int) ∧ S1.1 500 0 = 0 ∧ RfS S0 T0 (Ds ++ [(lyC pg V).getD []]) [] pp r L Q C S1 else S1.1 500 0 = 2 ∧ RfS S0 T0 Ds pg pp r L Q C S1) := by
      intro nn S3 h3
      refine ev_up (fun n => e_X12_cut_51) ?_
      unfold b_X12_cut_51
      refine ev_gg (by first | omega | (constructor <;> omega)) ?_
      refine fa_c (p := False) (by rw [if_neg (fun z => z)]) h3 (fun z => z.elim) (fun _ S4 t4 f4 h4 => ?_)
      refine ev_gg (by decide) ?_
      refine ev_ite (fun z => by omega) (fun _ => ?_)
      refine ev_ret ?_
      rw [if_neg nn]
      exact ⟨t4, h4⟩
    refine ev_gv ?_
    rw [h2.1.1]
    refine ev_gg (by first | omega | (constructor <;> omega)) ?_
    refine ev_ite (fun z => ?_) (fun z => ?_)
    · exact no (fun y => by omega) S2 h2
    · refine ev_gcr (q_isPath (d := d - 1) pa) ?_
      by_cases hp : isP pg
      · rw [if_pos hp]
        refine ev_gg (by decide) ?_
        refine ev_ite (fun z => by omega) (fun _ => ?_)
        refine ev_gc (q_canCut (d := d - 1) (K := 40) (F := a.toNat) (by omega) rfl (by decide) e1 (by omega) (by omega) e4.1 e4.2.2.2 e3 pa hp) (fun x S3 q3 => ?_)
        obtain ⟨x3, v3, f3⟩ := q3
        have h3 := rf_sc h2 f3 (fun c j z => by omega)
        cases hY : lyC pg V with
        | none =>
          rw [hY] at x3 no
          have x0 : x = 0 := x3
          subst x0
          refine ev_gg (by decide) ?_
          refine ev_ite (fun _ => ?_) (fun z => by omega)
          exact no (fun y => by have := y.2.2; cases this) S3 h3
        | some W =>
          rw [hY] at x3
          have x1 : x = 1 := x3
          subst x1
          have vW := v3 W hY
          have dW := lyC_doc e4 hY
          refine ev_gg (by decide) ?_
          refine ev_ite (fun z => by omega) (fun _ => ?_)
          refine ev_up (fun n => e_X12_cut_51) ?_
          unfold b_X12_cut_51
          refine ev_gg (by first | omega | (constructor <;> omega)) ?_
          refine fa_c (p := True) (by rw [if_pos trivial]) h3 (fun _ S4 t4 f4 h4 => ?_) (fun z => absurd trivial z)
          refine ev_gg (by decide) ?_
          refine ev_ite (fun _ => ?_) (fun z => by omega)
          refine ev_mono (r_keepWipe (d := d - 1) (K := 40) (W := W) (by omega) rfl (by decide) h4 (by omega) (lk_fr vW f4 (fun j _ _ => by omega) (by omega)) dW t4) (fun x S5 q5 => ?_)
          rw [if_pos ⟨by omega, hp, rfl⟩]
          exact q5
      · rw [if_neg hp]
        refine ev_gg (by decide) ?_
        refine ev_ite (fun _ => ?_) (fun z => by omega)
        exact no (fun y => hp y.2.1) S2 h2
  · refine ev_gg (by decide) ?_
    refine ev_ite (fun z => by omega) (fun _ => ?_)
    refine ev_ret ?_
    rw [if_neg c]
    exact ⟨t1, h1⟩
theorem r_both {a b : Int} (hd : 8 ≤ d) (ha : inr a) (hb : inr b) (h : RfS S0 T0 Ds pg pp r L Q C S) : Ev (fun n => f_X12_both n d 0 S [a, b]) (fun x S1 => if hasD Ds a ∧ hasD Ds b then (if Ds.length < 40 ∧ pOK (gpN (ndK 4) [atD' Ds a, atD' Ds b] 2) then x = (Ds.length : Int) ∧ S1.1 500 0 = 0 ∧ RfS S0 T0 (Ds ++ [kyT (gpN (ndK 4) [atD' Ds a, atD' Ds b] 2) []]) pg pp r L Q C S1 else S1.1 500 0 = 2 ∧ RfS S0 T0 Ds pg pp r L Q C S1) else S1.1 500 0 = 1 ∧ RfS S0 T0 Ds pg pp r L Q C S1) := by
  have p22 : ∀ s : Int, s = (if hasD Ds a ∧ hasD Ds b then 1 else 0) → Ev (fun n => f_X12_both n d 22 S [a, b, s]) (fun x S1 => if hasD Ds a ∧ hasD Ds b then (if Ds.length < 40 ∧ pOK (gpN (ndK 4) [atD' Ds a, atD' Ds b] 2) then x = (Ds.length : Int) ∧ S1.1 500 0 = 0 ∧ RfS S0 T0 (Ds ++ [kyT (gpN (ndK 4) [atD' Ds a, atD' Ds b] 2) []]) pg pp r L Q C S1 else S1.1 500 0 = 2 ∧ RfS S0 T0 Ds pg pp r L Q C S1) else S1.1 500 0 = 1 ∧ RfS S0 T0 Ds pg pp r L Q C S1) := by
    intro s hs
    refine ev_up (fun n => e_X12_both_22) ?_
    unfold b_X12_both_22
    refine ev_gg (by first | omega | (constructor <;> omega)) ?_
    refine fa_c hs h (fun c S1 t1 f1 h1 => ?_) (fun c S1 t1 f1 h1 => ?_)
    · refine ev_gg (by decide) ?_
      refine ev_ite (fun _ => ?_) (fun z => by omega)
      simp only [if_pos c]
      have n4 := h1.1.2.1
      have ra := r_at h1 c.1
      have rb := r_at h1 c.2
      have lk : ∀ S3, RfS S0 T0 Ds pg pp r L Q C S3 → LK S3 a.toNat (atD' Ds a) ∧ LK S3 b.toNat (atD' Ds b) := fun S3 g => ⟨(r_at g c.1).2.2.1, (r_at g c.2).2.2.1⟩
      obtain ⟨e1, e2, e3, e4⟩ := ra
      obtain ⟨g1, g2, g3, g4⟩ := rb
      generalize atD' Ds a = V at *
      generalize atD' Ds b = U at *
      refine ev_gc (q_begin1 (d := d - 1) (K := 40) rfl (by decide)) (fun _ S2 q2 => ?_)
      refine ev_gc (q_added (d := d - 1) (K := 40) (by omega) rfl (by decide) (by decide) q2.1) (fun y S3 q3 => ?_)
      obtain ⟨m3, f3, y3⟩ := q3
      have y0 : y = 0 := by rw [y3, q2.1.2.1]; rfl
      subst y0
      rw [apM_some (by show (1 : Nat) ≤ 100; decide)] at m3
      refine ev_gcr (q_at) ?_
      refine ev_gv ?_
      refine ev_gg (by decide) ?_
      refine ev_gv ?_
      rw [show ((101 * (40 : Int) + 0) * 61 + 3).toNat = 6161 * 40 + 61 * 0 + 3 from rfl]
      have m4 : MD (gI S3 501 (6161 * 40 + 61 * 0 + 3) 2) 40 (some [wZ (ndM 4) 2]) := md_set3 (i := 0) (v := 2) m3 (by decide) (by decide)
      have f4 : FC (fun c j => doP 40 c j) S1 (gI S3 501 (6161 * 40 + 61 * 0 + 3) 2) := fc_tr (fc_mono q2.2 (fun c j z => by omega)) (fc_tr f3 (fc_gI (Or.inl ⟨rfl, by decide, by decide⟩)))
      generalize gI S3 501 (6161 * 40 + 61 * 0 + 3) 2 = S4 at m4 f4 ⊢
      have h4 := rf_sc h1 f4 (fun c j z => by omega)
      have a4 := (lk S4 h4).1
      refine ev_gg (by first | omega | (constructor <;> omega)) ?_
      refine ev_gv ?_
      rw [a4.1]
      refine ev_gc (q_copies (d := d - 1) (K := 40) (F := a.toNat) (A := 0) (E := V.length) (W0 := mny V) (by omega) rfl (by decide) e1 (by omega) rfl rfl (by decide) (by rw [mny_len]; exact Nat.le_refl _) (by omega) (lk_mr e4.1.1.1.1 e4.1.1.2 a4) m4) (fun _ S5 q5 => ?_)
      obtain ⟨m5, f5⟩ := q5
      have h5 := rf_sc h4 f5 (fun c j z => by omega)
      have b5 := (lk S5 h5).2
      refine ev_gg (by first | omega | (constructor <;> omega)) ?_
      refine ev_gv ?_
      rw [b5.1]
      refine ev_gc (q_copies (d := d - 1) (K := 40) (F := b.toNat) (A := 0) (E := U.length) (W0 := mny U) (by omega) rfl (by decide) g1 (by omega) rfl rfl (by decide) (by rw [mny_len]; exact Nat.le_refl _) (by omega) (lk_mr g4.1.1.1.1 g4.1.1.2 b5) m5) (fun _ S6 q6 => ?_)
      obtain ⟨m6, f6⟩ := q6
      have h6 := rf_sc h5 f6 (fun c j z => by omega)
      have f16 := fc_tr f4 (fc_tr f5 f6)
      have t6 : S6.1 500 0 = 0 := by rw [fc_i f16 (by omega)]; exact t1
      have sV : seg (mny V) 0 (V.length - 0) = mny V := by unfold seg; rw [List.drop_zero, List.take_of_length_le (by rw [mny_len]; omega)]
      have sU : seg (mny U) 0 (U.length - 0) = mny U := by unfold seg; rw [List.drop_zero, List.take_of_length_le (by rw [mny_len]; omega)]
      have trs : ∀ t ∈ [V, U], TR t ∧ PZL t := fun t ht => by
        rcases List.mem_cons.mp ht with w | w
        · rw [w]; exact e4.1.1
        · rw [List.mem_singleton] at w; rw [w]; exact g4.1.1
      have tG := tr_gp (x := ndK 4) (E := [V, U]) (by decide) (fun t ht => (trs t ht).1)
      have pG : PZL (gpN (ndK 4) [V, U] [V, U].length) := pzl_gp (fun t ht => (trs t ht).2)
      have eG : mny (gpN (ndK 4) [V, U] 2) = [wZ (ndM 4) 2] ++ (mny V ++ mny U) := by
        have := mny_gp (x := ndK 4) (E := [V, U]) (by decide) trs
        rw [show ([V, U] : List (List ND)).length = 2 from rfl] at this
        rw [this]
        simp only [List.map_cons, List.map_nil, List.flatten_cons, List.flatten_nil, List.append_nil]
        rfl
      have nrT : ∀ y ∈ gpN (ndK 4) [V, U] 2, (gpN (ndK 4) [V, U] 2).length ≤ 100 → NR y := fun y hy hlen => by
        rcases List.mem_cons.mp hy with w | w
        · rw [w]
          have l : ([V, U] : List (List ND)).flatten.length ≤ 99 := by rw [gp_len] at hlen; omega
          have ll : (([V, U] : List (List ND)).take 2).flatten.length ≤ 99 := l
          have nk4 := nr_ndK (show (0 : Int) ≤ 4 ∧ (4 : Int) ≤ 5 by decide)
          exact ⟨nk4.1, nk4.2.1, by show (1 : Nat) ≤ 1 + _; omega, by show 1 + _ ≤ 100; omega, nk4.2.2.2.2.1, nk4.2.2.2.2.2.1, nk4.2.2.2.2.2.2.1, nk4.2.2.2.2.2.2.2.1, nk4.2.2.2.2.2.2.2.2.1, nk4.2.2.2.2.2.2.2.2.2⟩
        · have : y ∈ V ++ U := by simpa using w
          rcases List.mem_append.mp this with w | w
          · exact (e4.1.2.1 y w).1
          · exact (g4.1.2.1 y w).1
      rw [sV, sU, apM_app, ← apM_some (W := [wZ (ndM 4) 2]) (by show (1 : Nat) ≤ 100; decide), apM_app, ← eG] at m6
      refine ev_gc (q_isWhole (d := d - 1) (K := 40) (T := gpN (ndK 4) [V, U] 2) (by omega) rfl (by decide) ⟨tG, pG⟩ (fun hl y hy => nrT y hy hl) m6) (fun x S7 q7 => ?_)
      obtain ⟨x7, v7, f7⟩ := q7
      have h7 := rf_sc h6 f7 (fun c j z => by omega)
      have t7 : S7.1 500 0 = 0 := by rw [fc_i f7 (by omega)]; exact t6
      have p111 : ∀ s : Int, s = (if Ds.length < 40 ∧ pOK (gpN (ndK 4) [V, U] 2) then 1 else 0) → Ev (fun n => f_X12_both n d 111 S7 [s]) (fun x S1 => if Ds.length < 40 ∧ pOK (gpN (ndK 4) [V, U] 2) then x = (Ds.length : Int) ∧ S1.1 500 0 = 0 ∧ RfS S0 T0 (Ds ++ [kyT (gpN (ndK 4) [V, U] 2) []]) pg pp r L Q C S1 else S1.1 500 0 = 2 ∧ RfS S0 T0 Ds pg pp r L Q C S1) := by
        intro s hs
        refine ev_up (fun n => e_X12_both_111) ?_
        unfold b_X12_both_111
        refine ev_gg (by first | omega | (constructor <;> omega)) ?_
        refine fa_c hs h7 (fun c2 S8 t8 f8 h8 => ?_) (fun c2 S8 t8 f8 h8 => ?_)
        · refine ev_gg (by decide) ?_
          refine ev_ite (fun _ => ?_) (fun z => by omega)
          simp only [if_pos c2]
          have v8 := lk_fr (v7 c2.2) f8 (fun j _ _ => by omega) (by omega)
          have hl9 : ([V, U] : List (List ND)).flatten.length < 100 := by have := c2.2.1; rw [gp_len] at this; omega
          have sk : SDC (gpN (ndK 4) [V, U] 2) := sdc_gp (x := ndK 4) (E := [V, U]) (by decide) ⟨nr_ndK (by decide), Or.inr (Or.inr (Or.inr (Or.inr ⟨by decide, rfl, rfl⟩)))⟩ (fun t ht => by
            rcases List.mem_cons.mp ht with w | w
            · rw [w]; exact e4.1
            · rw [List.mem_singleton] at w; rw [w]; exact g4.1) (fun e => absurd e (by decide)) (fun _ t ht => by
            rcases List.mem_cons.mp ht with w | w
            · rw [w]; exact e4.2.2.2
            · rw [List.mem_singleton] at w; rw [w]; exact g4.2.2.2) hl9
          refine ev_gc (r_keeps (d := d - 1) (K := 40) (V := gpN (ndK 4) [V, U] 2) (by omega) rfl (by decide) h8 c2.1 v8 (doc_ky sk c2.2)) (fun x S9 q9 => ?_)
          exact ev_ret ⟨q9.1, q9.2.1.trans t8, q9.2.2⟩
        · refine ev_gg (by decide) ?_
          refine ev_ite (fun z => by omega) (fun _ => ?_)
          refine ev_ret ?_
          rw [if_neg c2]
          exact ⟨t8, h8⟩
      by_cases cp : pOK (gpN (ndK 4) [V, U] 2)
      · rw [if_pos cp] at x7
        subst x7
        refine ev_gg (by decide) ?_
        refine ev_ite (fun z => by omega) (fun _ => ?_)
        refine ev_gv ?_
        rw [h7.1.1]
        refine ev_gg (by first | omega | (constructor <;> omega)) ?_
        refine ev_ite (fun z => ?_) (fun z => ?_)
        · exact p111 0 (by rw [if_neg (by omega)])
        · exact p111 1 (by rw [if_pos ⟨by omega, cp⟩])
      · rw [if_neg cp] at x7
        subst x7
        refine ev_gg (by decide) ?_
        refine ev_ite (fun _ => ?_) (fun z => by omega)
        exact p111 0 (by rw [if_neg (fun y => cp y.2)])
    · refine ev_gg (by decide) ?_
      refine ev_ite (fun z => by omega) (fun _ => ?_)
      refine ev_ret ?_
      rw [if_neg c]
      exact ⟨t1, h1⟩
  refine ev_up (fun n => e_X12_both_0) ?_
  unfold b_X12_both_0
  refine ev_gg (by first | omega | (constructor <;> omega)) ?_
  refine ev_gcr (r_isDoc (d := d - 1) (by omega) ha h) ?_
  by_cases c : hasD Ds a
  · rw [if_pos c]
    refine ev_gg (by decide) ?_
    refine ev_ite (fun z => by omega) (fun _ => ?_)
    refine ev_gcr (r_isDoc (d := d - 1) (by omega) hb h) ?_
    by_cases c2 : hasD Ds b
    · rw [if_pos c2]
      refine ev_gg (by decide) ?_
      refine ev_ite (fun z => by omega) (fun _ => ?_)
      exact p22 1 (by rw [if_pos ⟨c, c2⟩])
    · rw [if_neg c2]
      refine ev_gg (by decide) ?_
      refine ev_ite (fun _ => ?_) (fun z => by omega)
      exact p22 0 (by rw [if_neg (fun z => c2 z.2)])
  · rw [if_neg c]
    refine ev_gg (by decide) ?_
    refine ev_ite (fun _ => ?_) (fun z => by omega)
    exact p22 0 (by rw [if_neg (fun z => c z.1)])
end PCB
