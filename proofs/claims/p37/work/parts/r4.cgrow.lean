/-! THE CLASS's grow and read -/
section RW5
variable {S S0 : GS} {c2 d b : Nat} {s r : List Int} {how q : Int} {V : List ND}
/-- where the fault is, when what is read is no DOCUMENT -/
theorem rd_parseR (hG : Good S) (hs : SrcOK c2 s) (hv : SV S c2 s) (hw : 0 ≤ how ∧ how ≤ 2) (hd : 60 ≤ d) : Ev (fun n => f_X6_parse n d 0 S [((c2 : Nat) : Int), how]) (fun x S1 => Fr rdM S S1 ∧ Good S1 ∧ RQ (rdA how s) (fun q => x = plI2 s q ∧ 0 ≤ x ∧ x ≤ s.length) (fun T => x = -1 ∧ TO 336 (nrH (decide (how = 2)) 13 T, false) S1)) := by
  have g := hs.1
  have n1 := hs.2.1
  have n2 := hs.2.2.1
  have n3 := hs.2.2.2.1
  refine ev_up (fun n => e_X6_parse_0) ?_
  unfold b_X6_parse_0
  refine ev_gv ?_
  refine ev_gv ?_
  refine ev_gv ?_
  refine ev_gv ?_
  refine ev_gv ?_
  generalize hS : gI (gI (gI (gI (gR S 470 5 c2) 470 6 how) 470 7 0) 470 8 (-1)) 470 9 0 = S1
  have f1 : F470 S S1 := by
    rw [← hS]
    exact fr_tr (fr_gR rfl) (fr_tr (fr_gI rfl) (fr_tr (fr_gI rfl) (fr_tr (fr_gI rfl) (fr_gI rfl))))
  have G1 : Good S1 := by
    rw [← hS]
    exact good_gI (good_gI (good_gI (good_gI (good_gR hG (by omega)) (by constructor <;> omega) (fun q => by unfold isC at q; omega)) (by decide) (fun q => by unfold isC at q; omega)) (by decide) (fun q => by unfold isC at q; omega)) (by decide) (fun q => by unfold isC at q; omega)
  have v5 : S1.2.2 470 5 = c2 := by rw [← hS]; show (gR S 470 5 c2).2.2 470 5 = c2; exact gR_a
  have v6 : S1.1 470 6 = how := by rw [← hS, gI_k (by decide), gI_k (by decide), gI_k (by decide), gI_a]
  have v7 : S1.1 470 7 = 0 := by rw [← hS, gI_k (by decide), gI_k (by decide), gI_a]
  have v8 : S1.1 470 8 = -1 := by rw [← hS, gI_k (by decide), gI_a]
  have v9 : S1.1 470 9 = 0 := by rw [← hS, gI_a]
  refine ev_gg (by omega) ?_
  refine ev_gc (ty_clear gT336 G1) (fun _ S2 q2 => ?_)
  refine ev_gc (sx_clear gSh430 q2.2.2.2) (fun _ S3 s3 => ?_)
  have f3 : Fr rdM S S3 := fr_tr (fr_mono f1 (fun k hk => Or.inr (Or.inr hk))) (fr_tr (fr_mono q2.2.2.1 (fun k hk => Or.inl (by unfold trM at hk; omega))) (fr_mono s3.2.1 (fun k hk => Or.inr (Or.inl (by unfold shM at hk; omega)))))
  have e3 : S3.1 470 = S1.1 470 := by rw [(s3.2.1 470 (by unfold shM; omega)).1, (q2.2.2.1 470 (by unfold trM; omega)).1]
  have e3' : S3.2.2 470 = S1.2.2 470 := by rw [(s3.2.1 470 (by unfold shM; omega)).2.2, (q2.2.2.1 470 (by unfold trM; omega)).2.2]
  have v3 : SV S3 c2 s := sv_fr hv f3 (by unfold rdM; omega) (by unfold rdM; omega)
  have h3 : RdC c2 s how S s 0 [] S3 := by
    refine ⟨⟨by rw [e3']; exact v5, v3, ⟨[], s3.1, fun x hx => by cases hx⟩, f3, s3.2.2⟩, by rw [e3]; exact v6, ⟨[], rfl, by rw [e3]; exact v7⟩, by rw [e3]; exact v8, by rw [e3]; exact v9, to_fr (to_ty q2) s3.2.1 (fun k a b => by unfold shM; omega)⟩
  have call := rd_value (S0 := S) hs hw 12 (d - 1) (by decide) (by omega) [] S3 s [] 0 h3 s3.1 (fun x hx => by cases hx) wf_nil (Nat.le_refl _) (by decide)
  have e13 : (13 : Int) - ((12 + 1 : Nat) : Int) = 0 := by decide
  rw [e13] at call
  refine ev_gc call (fun x S4 q4 => ?_)
  unfold VQ at q4
  unfold rdA
  have tailF : ∀ {q : Int} {S4 : GS}, FlC c2 s S q S4 → Ev (fun n => gc (f_X6_skipBlanks n (d - 1) 0 S4 []) fun _ S_22 => gc (f_X6_here n (d - 1) 0 S_22 []) fun x24 S_25 => gg (inr x24) <| if x24 = (-1) then (gv (S_25.1 470 8) fun x29 => some (x29, S_25)) else (gv (S_25.1 470 7) fun x31 => gc (f_X6_fail n (d - 1) 0 S_25 [x31]) fun _ S_34 => gv (S_34.1 470 8) fun x36 => some (x36, S_34))) (fun x S1 => x = q ∧ FlC c2 s S q S1) := by
    intro q S4 fl
    refine ev_gc (fl_skips (d := d - 1) hs (by omega) fl) (fun _ S5 q5 => ?_)
    have hr := atD_s hs (S5.1 470 7)
    refine ev_gcr (fl_here (d := d - 1) q5.1 hs (by omega)) ?_
    refine ev_gg (by constructor <;> omega) ?_
    refine ev_ite (fun _ => ?_) (fun _ => ?_)
    · refine ev_gv ?_
      exact ev_ret ⟨q5.1.2.2.1, q5.1⟩
    · refine ev_gv ?_
      refine ev_gc (fl_fail (d := d - 1) q5.1) (fun _ S6 q6 => ?_)
      refine ev_gv ?_
      exact ev_ret ⟨q6.2.1.2.2.1, q6.2.1⟩
  cases ho : rdV (12 + 1) how 0 s with
  | inl q =>
    rw [ho] at q4
    exact ev_mono (tailF q4) (fun x S5 q5 => ⟨q5.2.1.2.2.2.1, q5.2.1.2.2.2.2, q5.1, by rw [q5.1]; exact q5.2.2.2.2.1⟩)
  | inr z =>
    rw [ho] at q4
    obtain ⟨-, q4⟩ := q4
    refine ev_gc (rd_skip (d := d - 1) hs (by omega) _ S4 q4) (fun _ S5 q5 => ?_)
    have hr := hdI_r hs q5.1.2.2.1
    refine ev_gcr (rd_here (d := d - 1) q5.1 hs (by omega)) ?_
    refine ev_gg (by constructor <;> omega) ?_
    have vok := rdV_ok (12 + 1) _ _ _ ho (fun y hy => src_m hs y hy)
    have ek : kyT z.1 [] = z.1 := by
      have hq := vok.1.2.1
      have h1 := vok.1.1.1.1.2.1
      cases hv : z.1 with
      | nil => rw [hv] at h1; simp at h1
      | cons y t =>
        rw [hv] at hq
        have hq' : y.2.2.2.2 = [] := hq
        show wQ y [] :: t = y :: t
        rw [← hq']
        rfl
    show Ev _ (fun x S1 => _ ∧ _ ∧ RQ (if skB z.2.2 = [] then .inr z.1 else .inl (skB z.2.2)) _ _)
    by_cases c : skB z.2.2 = []
    · rw [if_pos c]
      refine ev_ite (fun _ => ?_) (fun w => absurd (show hdI (skB z.2.2) = -1 by rw [c]; rfl) w)
      refine ev_gv ?_
      refine ev_ret ⟨q5.1.1.2.2.2.1, q5.1.1.2.2.2.2, q5.1.2.2.2.1, ?_⟩
      have := q5.1.2.2.2.2.2
      rw [ek, List.nil_append] at this
      exact this
    · rw [if_neg c]
      have ne : hdI (skB z.2.2) ≠ -1 := by
        have m := hdI_mem c
        have := rng_skB (vok.2) _ m
        omega
      refine ev_ite (fun w => absurd w ne) (fun _ => ?_)
      refine ev_gv ?_
      have l5 := sf_le q5.1.2.2.1
      refine ev_gc (rd_fail (d := d - 1) q5.1 hs (p := S5.1 470 7) (by omega)) (fun _ S6 q6 => ?_)
      refine ev_gv ?_
      exact ev_ret ⟨q6.2.1.1.2.2.2.1, q6.2.1.1.2.2.2.2, by rw [q6.2.1.2.2.1]; exact l5.2.2.1, by rw [q6.2.1.2.2.1]; exact q6.2.1.2.2.2.1⟩
end RW5
section CGR
variable {S S1 : GS} {T0 : List ND} {Ds : List (List ND)} {pg pp : List Int} {r : Int} {L : List Nat} {Q : List (List Int)} {C : List (Int × Int)} {d : Nat}
/-- a DOCUMENT more -/
theorem cl_new {M : Nat → Prop} {T : List ND} (h : ClS T0 Ds pg pp r L Q C S) (hl : Ds.length < 40) (hT : TO (8 * Ds.length) (T, false) S1) (h14 : S1.1 468 14 = (Ds.length : Int) + 1) (h15 : ∀ k, k ≠ 14 → S1.1 468 k = S.1 468 k) (hf : Fr M S S1) (hM : ∀ k, M k → wkM k ∨ (8 * Ds.length ≤ k ∧ k < 8 * Ds.length + 8) ∨ k = 468) (hG : Good S1) (hD : DOC T) : ClS T0 (Ds ++ [T]) pg pp r L Q C S1 := by
  obtain ⟨⟨n1, n2, n3⟩, ⟨p1, p2⟩, q1, ⟨r1, r2⟩, f1, u1, c1, t1, g⟩ := h
  have nM : ∀ k, ¬ wkM k → ¬ (8 * Ds.length ≤ k ∧ k < 8 * Ds.length + 8) → k ≠ 468 → ¬ M k := fun k h0 h1 h2 z => by
    rcases hM k z with w | w | w
    · exact h0 w
    · exact h1 w
    · exact h2 w
  have n487 := hf 487 (nM _ (by unfold wkM; omega) (by omega) (by decide))
  refine ⟨⟨by rw [h14, List.length_append]; rfl, by rw [List.length_append, List.length_singleton]; omega, fun i hi => ?_⟩, ⟨sv_fr p1 hf (nM _ (by unfold wkM; omega) (by omega) (by decide)) (nM _ (by unfold wkM; omega) (by omega) (by decide)), p2⟩, sv_fr q1 hf (nM _ (by unfold wkM; omega) (by omega) (by decide)) (nM _ (by unfold wkM; omega) (by omega) (by decide)), ⟨by rw [h15 15 (by decide)]; exact r1, r2⟩, fsl_fr f1 hf (nM _ (by unfold wkM; omega) (by omega) (by decide)) (nM _ (by unfold wkM; omega) (by omega) (by decide)) (nM _ (by unfold wkM; omega) (by omega) (by decide)), qu_fr u1 hf (nM _ (by unfold wkM; omega) (by omega) (by decide)) (nM _ (by unfold wkM; omega) (by omega) (by decide)) (nM _ (by unfold wkM; omega) (by omega) (by decide)) (nM _ (by unfold wkM; omega) (by omega) (by decide)), cp_fr c1 hf (by rw [n487.1]) (nM _ (by unfold wkM; omega) (by omega) (by decide)) (nM _ (by unfold wkM; omega) (by omega) (by decide)), to_fr t1 hf (fun k a b => nM _ (by unfold wkM; omega) (by omega) (by omega)), hG⟩
  rw [List.length_append, List.length_singleton] at hi
  by_cases e : i < Ds.length
  · have eg : (Ds ++ [T]).getD i [] = Ds.getD i [] := by
      rw [List.getD_eq_getElem?_getD, List.getD_eq_getElem?_getD, List.getElem?_append_left e]
    rw [eg]
    exact ⟨to_fr (n3 i e).1 hf (fun k a b => nM _ (by unfold wkM; omega) (by omega) (by omega)), (n3 i e).2⟩
  · have ei : i = Ds.length := by omega
    subst ei
    have eg : (Ds ++ [T]).getD Ds.length [] = T := by simp
    rw [eg]
    exact ⟨hT, hD⟩
theorem c_grow {a z : Int} (h : ClS T0 Ds pg pp r L Q C S) (hd : 90 ≤ d) (ha : inr a) (hz : inr z) : Ev (fun m => f_X11_grow m d 0 S [a, z]) (fun x S1 => if (0 ≤ a ∧ a < 65536) ∧ 1 ≤ z ∧ z ≤ 3 then (if Ds.length < 40 then x = (Ds.length : Int) ∧ ClS T0 (Ds ++ [grw a z]) pg pp r L Q C S1 else x = exB + 2 ∧ ClS T0 Ds pg pp r L Q C S1) else x = exB + 1 ∧ ClS T0 Ds pg pp r L Q C S1) := by
  refine ev_mono (t_grow (n := Ds.length) h.2.2.2.2.2.2.2.2 hd h.1.1 h.1.2.1 ha hz) (fun x S1 q => ?_)
  have gw : ∀ k, grM k → wkM k := fun k z => by
    unfold grM at z
    unfold wkM
    omega
  rcases q with ⟨n, xe, e⟩ | ⟨c, hl, xe, tT, h14, h15, f, G⟩ | ⟨c, hl, xe, f, G⟩
  · rw [if_neg n, e]
    exact ⟨xe, h⟩
  · rw [if_pos c, if_pos hl]
    refine ⟨xe, cl_new h hl tT h14 h15 f (fun k z => ?_) G (grw_D c.1 c.2)⟩
    have z' : grM k ∨ trM (8 * Ds.length) k ∨ k = 468 := z
    rcases z' with w | w | w
    · exact Or.inl (gw k w)
    · unfold trM at w
      exact Or.inr (Or.inl w)
    · exact Or.inr (Or.inr w)
  · rw [if_pos c, if_neg hl]
    exact ⟨xe, cl_fr h f gw G⟩
theorem c_read (h : ClS T0 Ds pg pp r L Q C S) (hd : 70 ≤ d) (hpg : rng pg) : Ev (fun m => f_X11_read m d 0 S []) (fun x S1 => if Ds.length < 40 then RQ (rdA r pg) (fun q => x = -2 - ((pg.length : Int) - q.length) ∧ ClS T0 Ds [] pp r L Q C S1) (fun T => x = (Ds.length : Int) ∧ ClS T0 (Ds ++ [nrH (decide (r = 2)) 13 T]) [] pp r L Q C S1) else x = exB + 2 ∧ ClS T0 Ds pg pp r L Q C S1) := by
  have ex := ex_e
  have n4 := h.1.2.1
  have hr := h.2.2.2.1
  have l400 := h.2.1.2
  refine ev_up (fun n => e_X11_read_0) ?_
  unfold b_X11_read_0
  refine ev_gv ?_
  rw [h.1.1]
  refine ev_gg (by first | omega | (constructor <;> omega)) ?_
  refine ev_ite (fun z => ?_) (fun z => ?_)
  · have zl : Ds.length < 40 := by omega
    simp only [if_pos zl]
    refine ev_gv ?_
    rw [hr.1]
    refine ev_gg (by first | omega | (constructor <;> omega)) ?_
    refine ev_gc (rd_parseR (d := d - 1) (c2 := 424) (s := pg) h.2.2.2.2.2.2.2.2 ⟨by decide, by decide, by decide, by decide, hpg, by omega⟩ h.2.1.1 hr.2 (by omega)) (fun x S2 q2 => ?_)
    obtain ⟨f2, G2, q2⟩ := q2
    have h2 := cl_fr h f2 (fun k z => by
      have z' : (336 ≤ k ∧ k < 352) ∨ (430 ≤ k ∧ k < 436) ∨ k = 470 := z
      unfold wkM
      omega) G2
    refine ev_gc (sx_clear (d := d - 1) (c := 424) (by decide) h2.2.2.2.2.2.2.2.2) (fun _ S3 q3 => ?_)
    have h3 := cl_page h2 q3 (by decide)
    cases hA : rdA r pg with
    | inl q =>
      rw [hA] at q2
      obtain ⟨xe, x0, x1⟩ := q2
      refine ev_gg (by first | omega | (constructor <;> omega)) ?_
      refine ev_ite (fun z => by omega) (fun _ => ?_)
      refine ev_gv ?_
      refine ev_gg (by first | omega | (constructor <;> omega)) ?_
      refine ev_ret ⟨?_, h3⟩
      rw [xe]
      rfl
    | inr T =>
      rw [hA] at q2
      obtain ⟨xe, tT⟩ := q2
      subst xe
      obtain ⟨dT, _⟩ := rdA_doc (h := decide (r = 2)) hA hpg
      have tT3 : TO 336 (nrH (decide (r = 2)) 13 T, false) S3 := to_fr tT q3.2.1 (fun k h1 h2 => by unfold shM; omega)
      refine ev_gg (by decide) ?_
      refine ev_ite (fun _ => ?_) (fun w => absurd rfl w)
      refine ev_gcr (x6_result (d := d - 1)) ?_
      rw [Int.toNat_natCast]
      refine ev_gc (cl_admitK (d := d - 1) (c := 336) (T := nrH (decide (r = 2)) 13 T) (by decide) (by decide) (by omega) h3 tT3 dT.1 dT.2.2.1 dT.2.2.2) (fun y S4 q4 => ?_)
      rw [if_pos ⟨doc_ok dT, zl⟩] at q4
      obtain ⟨ye, q4⟩ := q4
      subst ye
      refine ev_ite (fun _ => ?_) (fun w => by omega)
      refine ev_gg (by first | omega | (constructor <;> omega)) ?_
      exact ev_ret ⟨rfl, q4⟩
  · have zl : ¬ Ds.length < 40 := by omega
    simp only [if_neg zl]
    exact ev_ret ⟨rfl, h⟩
end CGR
