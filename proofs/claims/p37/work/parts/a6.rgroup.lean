/-! READING: ROWS and MAPS, of the class -/
theorem e_ky {T : List ND} {q : List Int} (h : 1 ≤ T.length) : T.set 0 (wQ (T.getD 0 nd0) q) = kyT T q := by
  cases T with
  | nil => simp at h
  | cons a b => rfl
theorem rbl_gp {S : GS} {c c3 d : Nat} {P A B : List ND} {x : ND} {EA EB : List (List ND)} {u t : List ND} (hc : gT c) (hc3 : gT c3) (hne : c3 ≠ c) (hd : 3 ≤ d) (hx : 4 ≤ x.1) (hP : WF P) (hE : ∀ T ∈ EA ++ u :: EB, TR T ∧ PZL T) (ht : TR t ∧ PZL t) (h : TO c (P ++ gpN x (EA ++ u :: EB) (EA ++ u :: EB).length ++ t, false) S) (hG : Good S) : Ev (fun n => f_X10_replaceByLast n d 0 S [((c : Nat) : Int), ((P.length + 1 + EA.flatten.length : Nat) : Int), ((P ++ gpN x (EA ++ u :: EB) (EA ++ u :: EB).length).length : Int), ((c3 : Nat) : Int)]) (fun _ S1 => TO c (P ++ gpN x (EA ++ kyT t (rq u) :: EB) (EA ++ kyT t (rq u) :: EB).length, false) S1 ∧ Fr (fun x => trM c x ∨ trM c3 x) S S1 ∧ Good S1) := by
  have hwf : WF (P ++ gpN x (EA ++ u :: EB) (EA ++ u :: EB).length) := wf_app hP (wf_gp hx (fun T hT => (hE T hT).1))
  have hVl : (P ++ gpN x (EA ++ u :: EB) (EA ++ u :: EB).length).length = P.length + 1 + (EA ++ u :: EB).flatten.length := by rw [List.length_append, gp_len]; omega
  have hV3 : (P ++ gpN x (EA ++ u :: EB) (EA ++ u :: EB).length ++ t).length = (P ++ gpN x (EA ++ u :: EB) (EA ++ u :: EB).length).length + t.length := List.length_append
  have hlen := tv_l h.1
  have tl := ht.1.2.1
  have hA : ∀ T ∈ EA, TR T := fun T hT => (hE T (List.mem_append_left _ hT)).1
  have hu := hE u (List.mem_append_right _ List.mem_cons_self)
  have hfl : (EA ++ u :: EB).flatten = EA.flatten ++ u ++ EB.flatten := by simp
  have hfll : (EA ++ u :: EB).flatten.length = EA.flatten.length + u.length + EB.flatten.length := by rw [hfl, List.length_append, List.length_append]
  have egp : P ++ gpN x (EA ++ u :: EB) (EA ++ u :: EB).length = P ++ (wZ x (1 + (EA.flatten ++ u ++ EB.flatten).length) :: (EA.flatten ++ u ++ EB.flatten)) := by
    unfold gpN
    rw [List.take_length, hfl]
  have hul := hu.1.2.1
  have hsgz : nz (P ++ gpN x (EA ++ u :: EB) (EA ++ u :: EB).length ++ t) (P ++ gpN x (EA ++ u :: EB) (EA ++ u :: EB).length).length = t.length := by
    rw [nz_r (Nat.le_refl _), Nat.sub_self]
    exact ht.1.2.2
  have hzu : ∀ p, p < (P ++ gpN x (EA ++ u :: EB) (EA ++ u :: EB).length).length → nz (P ++ gpN x (EA ++ u :: EB) (EA ++ u :: EB).length ++ t) p = nz (P ++ gpN x (EA ++ u :: EB) (EA ++ u :: EB).length) p := fun p hp => nz_l hp
  have lW : (P ++ gpN x (EA ++ u :: EB) (EA ++ u :: EB).length ++ t).length ≤ 100 := hlen
  have rb := t_replaceByLast (d := d) (c3 := c3) (i := P.length + 1 + EA.flatten.length) (k := (P ++ gpN x (EA ++ u :: EB) (EA ++ u :: EB).length).length) hc hc3 hne hd h hG rfl (by omega) (by show _ < (P ++ gpN x (EA ++ u :: EB) (EA ++ u :: EB).length ++ t).length; omega) (by rw [hsgz]; exact hV3.symm) (fun p hp hq => by
    rw [hzu p (by omega)] at hq ⊢
    rw [hzu _ (by omega)]
    refine ⟨?_, hwf.1 p (by omega)⟩
    by_cases hpo : p = P.length + 1 + EA.flatten.length
    · subst hpo; exact Nat.le_refl _
    · exact hwf.2.1 p _ (by omega) hq)
  refine ev_mono rb (fun _ S6 q6 => ?_)
  obtain ⟨t1, t2, t3, t4⟩ := q6
  refine ⟨?_, t2, t3⟩
  have ecp : (cpW (P ++ gpN x (EA ++ u :: EB) (EA ++ u :: EB).length ++ t) false ((P ++ gpN x (EA ++ u :: EB) (EA ++ u :: EB).length).length : Int)).1 = kyT t [] := by
    have sz : szI (P ++ gpN x (EA ++ u :: EB) (EA ++ u :: EB).length ++ t) ((P ++ gpN x (EA ++ u :: EB) (EA ++ u :: EB).length).length : Int) = (t.length : Int) := by
      rw [szI_nat (by omega), hsgz]
    have es : seg (P ++ gpN x (EA ++ u :: EB) (EA ++ u :: EB).length ++ t) (P ++ gpN x (EA ++ u :: EB) (EA ++ u :: EB).length).length t.length = t := by
      unfold seg
      rw [List.drop_left' rfl, List.take_length]
    unfold cpW apW
    rw [sz, if_pos ⟨rfl, by omega, by show (0 : Int) + _ ≤ 100; omega⟩]
    simp only [Int.toNat_natCast, es, List.nil_append]
    unfold cKy
    rw [if_pos ⟨Int.le_refl _, by show (0 : Int) < (t.length : Int); omega⟩]
    exact e_ky tl
  have erp : rpl ((P ++ gpN x (EA ++ u :: EB) (EA ++ u :: EB).length ++ t).take (P ++ gpN x (EA ++ u :: EB) (EA ++ u :: EB).length).length) (P.length + 1 + EA.flatten.length) (cpW (P ++ gpN x (EA ++ u :: EB) (EA ++ u :: EB).length ++ t) false ((P ++ gpN x (EA ++ u :: EB) (EA ++ u :: EB).length).length : Int)).1 0 = P ++ gpN x (EA ++ kyT t (rq u) :: EB) (EA ++ kyT t (rq u) :: EB).length := by
    rw [ecp, List.take_left', egp, rpl_gp hP (wf_flat hA) hu.1 (tr_ky ht.1), ky_ky]
    · unfold gpN
      rw [List.take_length]
      simp
    · rfl
  rw [erp] at t1
  exact t1
section RG
variable {S S0 : GS} {c2 d b : Nat} {s r : List Int} {how q : Int} {V : List ND}
theorem fl_close {i : Int} (h : FlC c2 s S0 q S) (hs : SrcOK c2 s) (hd : 1 ≤ d) (hi : inr i) : Ev (fun n => f_X10_close n d 0 S [((336 : Nat) : Int), i]) (fun _ S1 => FlC c2 s S0 q S1) := by
  obtain ⟨W, hW⟩ := h.2.2.2.2
  exact ev_mono (ty_close gT336 hd (ty_to hW h.1.2.2.2.2) hi) (fun _ S1 q1 => fl_tree hs h q1)
theorem fl_136 {a3 a4 : Int} (h : FlC c2 s S0 q S) (hs : SrcOK c2 s) (hd : 3 ≤ d) (h3 : inr a3) (h4 : a4 = 93 ∨ a4 = 125) : Ev (fun n => f_X6_entry n d 10136 S [a3, a4]) (fun _ S1 => FlC c2 s S0 q S1) := by
  refine ev_up (fun n => e_X6_group_136) ?_
  unfold b_X6_group_136
  refine ev_gg (by omega) ?_
  refine ev_gc (fl_pass (d := d - 1) h hs (by omega) (by omega)) (fun _ S1 q1 => ?_)
  refine ev_gc (fl_close (d := d - 1) q1.1 hs (by omega) h3) (fun _ S2 q2 => ?_)
  exact ev_ret q2
theorem fl_g53 {a1 a2 a3 a4 a5 a6 : Int} (h : FlC c2 s S0 q S) (hs : SrcOK c2 s) (hd : 4 ≤ d) (h3 : inr a3) (h4 : a4 = 93 ∨ a4 = 125) (h5 : inr a5) (h6 : inr a6) : Ev (fun n => f_X6_entry n d 10053 S [a1, a2, a3, a4, a5, a6]) (fun _ S1 => FlC c2 s S0 q S1) := by
  have k := fl_136 (d := d) h hs (by omega) h3 h4
  refine ev_up (fun n => e_X6_group_53) ?_
  unfold b_X6_group_53
  repeat' (first
    | with_reducible refine ev_gv ?_
    | with_reducible refine ev_gg ?_ ?_
    | with_reducible refine ev_ite (fun _ => ?_) (fun _ => ?_)
    | refine ev_gcr (fl_goes h) ?_
    | omega
    | assumption)
  all_goals exact k
theorem fl_g117 {a1 a2 a3 a4 a6 a0 : Int} (h : FlC c2 s S0 q S) (hs : SrcOK c2 s) (hd : 4 ≤ d) (h3 : inr a3) (h4 : a4 = 93 ∨ a4 = 125) (h0 : inr a0) (h6 : 0 ≤ a6 ∧ a6 ≤ 1000) : Ev (fun n => f_X6_entry n d 10117 S [a1, a2, a3, a4, a6, a0]) (fun _ S1 => FlC c2 s S0 q S1) := by
  refine ev_up (fun n => e_X6_group_117) ?_
  unfold b_X6_group_117
  refine ev_gg h0 ?_
  refine ev_ite (fun _ => ?_) (fun _ => ?_)
  · refine ev_gv ?_
    exact fl_g53 h hs hd h3 h4 h0 (by constructor <;> omega)
  · refine ev_gg (by omega) ?_
    refine ev_gc (fl_pass (d := d - 1) h hs (by omega) (by decide)) (fun _ S1 q1 => ?_)
    refine ev_gv ?_
    exact fl_g53 q1.1 hs hd h3 h4 h0 (by constructor <;> omega)
theorem fl_g99 {a1 a2 a3 a4 a6 : Int} (h : FlC c2 s S0 q S) (hs : SrcOK c2 s) (hd : 4 ≤ d) (h3 : inr a3) (h4 : a4 = 93 ∨ a4 = 125) (h6 : 0 ≤ a6 ∧ a6 ≤ 1000) : Ev (fun n => f_X6_entry n d 10099 S [a1, a2, a3, a4, a6]) (fun _ S1 => FlC c2 s S0 q S1) := by
  refine ev_up (fun n => e_X6_group_99) ?_
  unfold b_X6_group_99
  refine ev_gg (by omega) ?_
  refine ev_gc (fl_skips (d := d - 1) hs (by omega) h) (fun _ S1 q1 => ?_)
  have hr := atD_s hs (S1.1 470 7)
  refine ev_gcr (fl_here (d := d - 1) q1.1 hs (by omega)) ?_
  refine ev_gg (by constructor <;> omega) ?_
  refine ev_gg (by constructor <;> omega) ?_
  refine ev_ite (fun _ => ?_) (fun _ => ?_)
  · exact fl_g117 q1.1 hs hd h3 h4 (by decide) h6
  · exact fl_g117 q1.1 hs hd h3 h4 (by decide) h6
theorem fl_e65 {a2 a3 : Int} (h : FlC c2 s S0 q S) (hs : SrcOK c2 s) (hd : 3 ≤ d) : Ev (fun n => f_X6_entry n d 65 S [a2, a3]) (fun _ S1 => FlC c2 s S0 q S1) := by
  refine ev_up (fun n => e_X6_entry_65) ?_
  unfold b_X6_entry_65
  refine ev_gg (by omega) ?_
  refine ev_gc (fl_skips (d := d - 1) hs (by omega) h) (fun _ S1 q1 => ?_)
  refine ev_gc (fl_pass (d := d - 1) q1.1 hs (by omega) (by decide)) (fun _ S2 q2 => ?_)
  repeat' (first
    | with_reducible refine ev_gv ?_
    | with_reducible refine ev_gg ?_ ?_
    | with_reducible refine ev_ite (fun _ => ?_) (fun _ => ?_)
    | refine ev_gcr (fl_goes q2.1) ?_
    | omega
    | assumption)
  exact ev_ret q2.1
/-- what reading a VALUE comes to -/
def VQ (c2 : Nat) (s : List Int) (how : Int) (S0 : GS) (f : Nat) (P : List ND) (k : List Int) (o : Rs RV) (x : Int) (S1 : GS) : Prop := RQ o (fun q => FlC c2 s S0 (plI2 s q) S1) (fun z => x = (P.length : Int) ∧ RdC c2 s how S0 z.2.2 z.2.1 (P ++ nrH (decide (how = 2)) f (kyT z.1 k)) S1)
def VC (c2 : Nat) (s : List Int) (how : Int) (S0 : GS) (f d : Nat) : Prop := ∀ (P : List ND) (S : GS) (r k : List Int) (b : Nat), RdC c2 s how S0 r b P S → SV S 430 k → (∀ x ∈ k, x < 256) → WF P → P.length ≤ b → b ≤ 100 → Ev (fun n => f_X6_entry n d 20000 S [13 - (f : Int)]) (VQ c2 s how S0 f P k (rdV f how b r))
theorem src_rng (hs : SrcOK c2 s) (h : SF s r q) : rng r := by
  obtain ⟨A, rfl, -⟩ := h
  exact fun y hy => src_m hs y (List.mem_append_right _ hy)
theorem rd_rbl {V1 : List ND} {S1 : GS} (hs : SrcOK c2 s) (h : RdC c2 s how S0 r b V S) (h1 : TO 336 (V1, false) S1) (h2 : Fr (fun x => trM 336 x ∨ trM 344 x) S S1) (h3 : Good S1) : RdC c2 s how S0 r b V1 S1 := by
  obtain ⟨⟨a1, a2, ⟨ky, a3, a4⟩, a5, a6⟩, b2, b3, b4, b5, b6⟩ := h
  have g := hs.1
  have e := (h2 470 (by unfold trM; omega)).1
  refine ⟨⟨by rw [(h2 470 (by unfold trM; omega)).2.2]; exact a1, sv_fr a2 h2 (by unfold trM; omega) (by unfold trM; omega), ⟨ky, sv_fr a3 h2 (by unfold trM; omega) (by unfold trM; omega), a4⟩, fr_tr a5 (fr_mono h2 (fun k hk => Or.inl (by unfold trM at hk; omega))), h3⟩, by rw [e]; exact b2, by rw [e]; exact b3, by rw [e]; exact b4, by rw [e]; exact b5, h1⟩
theorem rdT_pos {m : Nat} : ∀ (f : Nat) (a r : List Int) (z : List Int × List Int), rdT f m a r = .inr z → z.2.length < r.length
  | 0, a, r, z, h => by cases h
  | f + 1, a, r, z, h => by
    rw [rdT_s] at h
    split at h
    · cases h
    · rename_i c0
      have tl : r.tail.length + 1 = r.length := by
        cases r with
        | nil => exact absurd rfl c0
        | cons x r => rfl
      split at h
      · cases h
        show r.tail.length < r.length
        omega
      · split at h
        · cases h
        · split at h
          · obtain ⟨e, h1, h2⟩ := bd_inr h
            have e1 := rdE_r h1 (Nat.lt_succ_self _)
            have := rdT_pos f _ _ z h2
            omega
          · have := rdT_pos f _ _ z h
            omega
/-- one VALUE of a MAP -/
theorem rd_entry {f : Nat} {P : List ND} {k0 : List Int} {E En : List (List ND)} {m : Nat} (hs : SrcOK c2 s) (hw : 0 ≤ how ∧ how ≤ 2) (ih : VC c2 s how S0 f (d - 1)) (hd : 8 ≤ d) (hf : f ≤ 13) (hP : WF P) (hkey : ∀ key, (∃ u ∈ En, rq u = key) ↔ ∃ u ∈ E, rq u = key) (hE : ∀ T ∈ En, TR T ∧ PZL T) (hroom : P.length + 1 + En.flatten.length ≤ b) (hb : b ≤ 100) (h : RdC c2 s how S0 r b (P ++ gpN (5, 1, 0, [], k0) En m) S) : Ev (fun n => f_X6_entry n d 0 S [(P.length : Int), 13 - (f : Int)]) (fun _ S1 => RQ (rdIt (rdV f how) true how E b r) (fun q => FlC c2 s S0 (plI2 s q) S1) (fun v => ∃ m', RdC c2 s how S0 v.2.2 v.2.1 (P ++ gpN (5, 1, 0, [], k0) (inH (decide (how = 2)) (nrH (decide (how = 2)) f v.1) (rq v.1) En) m') S1)) := by
  have hwf : WF (P ++ gpN (5, 1, 0, [], k0) En En.length) := wf_app hP (wf_gp (show (4 : Int) ≤ 5 by decide) (fun T hT => (hE T hT).1))
  have hVl : (P ++ gpN (5, 1, 0, [], k0) En En.length).length = P.length + 1 + En.flatten.length := by rw [List.length_append, gp_len]; omega
  refine ev_up (fun n => e_X6_entry_0) ?_
  unfold b_X6_entry_0
  refine ev_gg (by omega) ?_
  refine ev_gc (rd_skip (d := d - 1) hs (by omega) r S h) (fun _ S1 q1 => ?_)
  refine ev_gc (rd_signs (d := d - 1) (t := 430) (m := 12) hs (Or.inl rfl) (by decide) (by omega) q1.1) (fun _ S2 q2 => ?_)
  obtain ⟨q2, m2⟩ := q2
  have f2 : FT 430 S S2 := ft_tr (ft_4 q1.2) m2
  have t2 : TO 336 (P ++ gpN (5, 1, 0, [], k0) En m, false) S2 := to_fr h.2.2.2.2.2 f2 (fun k a b => by unfold shM; omega)
  -- the tree is closed, and the KEY is looked up
  have closed : ∀ {l : List Int}, Good S2 → SV S2 430 l → ∀ {K : Nat → Int → GS → Option (Int × GS)} {Q : Int → GS → Prop}, (∀ S3, TY 336 S2 (P ++ gpN (5, 1, 0, [], k0) En En.length, false) S3 → Ev (fun n => K n (fdE l En (P.length + 1)) S3) Q) → Ev (fun n => gc (f_X10_close n (d - 1) 0 S2 [((336 : Nat) : Int), (P.length : Int)]) fun _ S_9 => gc (f_X10_valueOf n (d - 1) 0 S_9 [((336 : Nat) : Int), (P.length : Int), ((430 : Nat) : Int)]) (K n)) Q := by
    intro l g2 hl K Q hK
    refine ev_gc (ty_close (d := d - 1) (i := (P.length : Int)) gT336 (by omega) (ty_to t2 g2) (by constructor <;> omega)) (fun _ S3 q3 => ?_)
    rw [clo_gp] at q3
    have hl3 := sv_ty gT336 gSh430 hl q3
    have hz3 := pz_of q3.1.2.2.2
    have ev := vLk_gp (P := P) (x := (5, 1, 0, [], k0)) (E := En) (key := l) rfl (fun T hT => (hE T hT).1) hz3
    refine ev_gcr (rd_as (t_valueOf (d := d - 1) (g := (P.length : Int)) gT336 q3.1 hwf (by constructor <;> omega) (by omega) gSh430 hl3) ev) ?_
    exact hK S3 q3
  unfold rdIt rdKy
  rw [if_pos rfl]
  have bad : ∀ {q : List Int} {a : Int}, FlC c2 s S0 (plI2 s q) S2 → (∃ l, SV S2 430 l) → Ev (fun n => gc (f_X10_close n (d - 1) 0 S2 [((336 : Nat) : Int), (P.length : Int)]) fun _ S_9 => gc (f_X10_valueOf n (d - 1) 0 S_9 [((336 : Nat) : Int), (P.length : Int), ((430 : Nat) : Int)]) fun x11 S_12 => gc (f_X6_goesOn n (d - 1) 0 S_12 []) fun x14 S_15 => gg (inr x14) <| if x14 = 0 then f_X6_entry n d 65 S_15 [13 - (f : Int), x11] else (gg (inr x11) <| if x11 = (-1) then f_X6_entry n d 65 S_15 [13 - (f : Int), x11] else (gv (S_15.1 470 6) fun x21 => gg (inr x21) <| if x21 ≠ 0 then f_X6_entry n d 65 S_15 [13 - (f : Int), x11] else (gv (S_15.1 470 7) fun x25 => gv (x25 - 1) fun x27 => gc (f_X6_fail n (d - 1) 0 S_15 [x27]) fun _ S_30 => f_X6_entry n d 65 S_30 [13 - (f : Int), x11])))) (fun _ S1 => FlC c2 s S0 (plI2 s q) S1) := by
    intro q a fl hl
    obtain ⟨l, hl⟩ := hl
    refine closed fl.1.2.2.2.2 hl (fun S3 q3 => ?_)
    have fl3 := fl_tree hs fl q3
    repeat' (first
      | with_reducible refine ev_gv ?_
      | with_reducible refine ev_gg ?_ ?_
      | with_reducible refine ev_ite (fun _ => ?_) (fun _ => ?_)
      | refine ev_gcr (fl_goes fl3) ?_
      | omega
      | assumption)
    exact fl_e65 fl3 hs (by omega)
  by_cases c0 : hdI (skB r) = 34
  · rw [if_pos c0] at q2
    simp only [if_neg (show ¬ hdI (skB r) ≠ 34 from fun z => z c0)]
    cases ho : rdT 40000 12 [] (skB r).tail with
    | inl q =>
      rw [ho] at q2
      exact bad (a := 0) q2.1 q2.2
    | inr z =>
      rw [ho] at q2
      obtain ⟨q2, hz, hz2, hz3⟩ := q2
      have l2 := sf_le q2.2.2.1
      refine closed q2.1.2.2.2.2 hz (fun S3 q3 => ?_)
      have r3 := rd_tree hs q2 q3
      have hz3' := sv_ty gT336 gSh430 hz q3
      have hex := fdE_ex (key := z.1) En (P.length + 1)
      have fdr : -1 ≤ fdE z.1 En (P.length + 1) ∧ fdE z.1 En (P.length + 1) < (P.length + 1 + En.flatten.length : Nat) := by
        rcases fdE_ins (t := []) (key := z.1) En (P.length + 1) with ⟨w, -⟩ | ⟨A, u, B, w1, -, w3, -⟩
        · rw [w]; omega
        · rw [w3, w1]
          have hu := hE u (by rw [w1]; exact List.mem_append_right _ List.mem_cons_self)
          have := hu.1.2.1
          have : (A ++ u :: B).flatten.length = A.flatten.length + u.length + B.flatten.length := by simp; omega
          omega
      have h6 : S3.1 470 6 = how := r3.2.1
      -- what comes behind the KEY
      have rest : (how = 0 → fdE z.1 En (P.length + 1) = -1) → Ev (fun n => f_X6_entry n d 65 S3 [13 - (f : Int), fdE z.1 En (P.length + 1)]) (fun _ S1 => RQ (bd (if hdI (skB z.2) = 58 then .inr (z.1, (skB z.2).tail) else .inl (skB z.2) : Rs (List Int × List Int)) (fun z => bd (rdV f how b z.2) (fun v => .inr (kyT v.1 z.1, v.2)))) (fun q => FlC c2 s S0 (plI2 s q) S1) (fun v => ∃ m', RdC c2 s how S0 v.2.2 v.2.1 (P ++ gpN (5, 1, 0, [], k0) (inH (decide (how = 2)) (nrH (decide (how = 2)) f v.1) (rq v.1) En) m') S1)) := by
        intro h0
        refine ev_up (fun n => e_X6_entry_65) ?_
        unfold b_X6_entry_65
        refine ev_gg (by omega) ?_
        refine ev_gc (rd_skip (d := d - 1) hs (by omega) _ S3 r3) (fun _ S4 q4 => ?_)
        refine ev_gc (rd_pass (d := d - 1) q4.1 hs (by omega) (c := 58) (by decide)) (fun _ S5 q5 => ?_)
        by_cases c5 : hdI (skB z.2) = 58
        · rw [if_pos c5] at q5
          rw [if_pos c5]
          have hk5 := f4_sv hz3' (f4_tr q4.2 q5.2) gSh430
          have call := ih (P ++ gpN (5, 1, 0, [], k0) En En.length) S5 _ z.1 b q5.1 hk5 hz2 hwf (by omega) hb
          repeat' (first
            | with_reducible refine ev_gv ?_
            | with_reducible refine ev_gg ?_ ?_
            | with_reducible refine ev_ite (fun _ => ?_) (fun _ => ?_)
            | refine ev_gcr (rd_goes q5.1) ?_
            | omega
            | assumption)
          refine ev_gc call (fun x S6 q6 => ?_)
          show Ev _ (fun _ S1 => RQ (bd (rdV f how b (skB z.2).tail) (fun v => .inr (kyT v.1 z.1, v.2))) _ _)
          unfold VQ at q6
          cases hv : rdV f how b (skB z.2).tail with
          | inl q =>
            rw [hv] at q6
            repeat' (first
              | with_reducible refine ev_gv ?_
              | with_reducible refine ev_gg ?_ ?_
              | with_reducible refine ev_ite (fun _ => ?_) (fun _ => ?_)
              | refine ev_gcr (fl_goes q6) ?_
              | omega
              | assumption)
            refine ev_up (fun n => e_X6_entry_122) ?_
            unfold b_X6_entry_122
            repeat' (first
              | with_reducible refine ev_gv ?_
              | with_reducible refine ev_gg ?_ ?_
              | with_reducible refine ev_ite (fun _ => ?_) (fun _ => ?_)
              | refine ev_gcr (fl_goes q6) ?_
              | omega
              | assumption)
            exact ev_ret q6
          | inr v =>
            rw [hv] at q6
            obtain ⟨rfl, q6⟩ := q6
            have vok := rdV_ok f _ _ _ hv (src_rng hs q5.1.2.2.1)
            have vt := (nrH_tr (h := decide (how = 2)) f (kyT v.1 z.1) ⟨tr_ky vok.1.1.1.1, pzl_ky vok.1.1.1.1.2.1 vok.1.1.1.2⟩).1
            have h66 : S6.1 470 6 = how := q6.2.1
            have l6 := tv_l q6.2.2.2.2.2.1
            have l6' : (P ++ gpN (5, 1, 0, [], k0) En En.length ++ nrH (decide (how = 2)) f (kyT v.1 z.1)).length ≤ 100 := l6
            have enr : nrH (decide (how = 2)) f (kyT v.1 z.1) = kyT (nrH (decide (how = 2)) f (kyT v.1 z.1)) z.1 := by rw [nrH_ky, ky_ky]
            have goal : ∀ {S1 : GS}, (∃ m', RdC c2 s how S0 v.2.2 v.2.1 (P ++ gpN (5, 1, 0, [], k0) (inH (decide (how = 2)) (nrH (decide (how = 2)) f (kyT v.1 z.1)) z.1 En) m') S1) → RQ (bd (.inr v : Rs RV) (fun v => .inr (kyT v.1 z.1, v.2)) : Rs RV) (fun q => FlC c2 s S0 (plI2 s q) S1) (fun v => ∃ m', RdC c2 s how S0 v.2.2 v.2.1 (P ++ gpN (5, 1, 0, [], k0) (inH (decide (how = 2)) (nrH (decide (how = 2)) f v.1) (rq v.1) En) m') S1) := fun w => w
            by_cases c6 : fdE z.1 En (P.length + 1) = -1
            · have ei : inH (decide (how = 2)) (nrH (decide (how = 2)) f (kyT v.1 z.1)) z.1 En = En ++ [nrH (decide (how = 2)) f (kyT v.1 z.1)] := by
                unfold inH
                rw [enr]
                split
                · rcases fdE_ins (t := kyT (nrH (decide (how = 2)) f (kyT v.1 z.1)) z.1) (key := z.1) En (P.length + 1) with ⟨-, w⟩ | ⟨A, u, B, -, -, w, -⟩
                  · rw [w, ky_ky]
                  · omega
                · rcases fdE_kp (t := kyT (nrH (decide (how = 2)) f (kyT v.1 z.1)) z.1) (key := z.1) En (P.length + 1) with ⟨-, w⟩ | ⟨w, -⟩
                  · rw [w, ky_ky]
                  · omega
              have eg : P ++ gpN (5, 1, 0, [], k0) En En.length ++ nrH (decide (how = 2)) f (kyT v.1 z.1) = P ++ gpN (5, 1, 0, [], k0) (En ++ [nrH (decide (how = 2)) f (kyT v.1 z.1)]) En.length := by
                unfold gpN
                simp
              rw [eg] at q6
              rw [c6]
              repeat' (first
                | with_reducible refine ev_gv ?_
                | with_reducible refine ev_gg ?_ ?_
                | with_reducible refine ev_ite (fun _ => ?_) (fun _ => ?_)
                | refine ev_gcr (rd_goes q6) ?_
                | omega
                | assumption)
              refine ev_up (fun n => e_X6_entry_122) ?_
              unfold b_X6_entry_122
              repeat' (first
                | with_reducible refine ev_gv ?_
                | with_reducible refine ev_gg ?_ ?_
                | with_reducible refine ev_ite (fun _ => ?_) (fun _ => ?_)
                | refine ev_gcr (rd_goes q6) ?_
                | omega
                | assumption)
              exact ev_ret (goal ⟨En.length, by rw [ei]; exact q6⟩)
            · have hw0 : how ≠ 0 := fun w => c6 (h0 w)
              by_cases c7 : how = 1
              · have ei : inH (decide (how = 2)) (nrH (decide (how = 2)) f (kyT v.1 z.1)) z.1 En = En := by
                  unfold inH
                  rw [if_neg (by rw [c7]; decide)]
                  rcases fdE_kp (t := nrH (decide (how = 2)) f (kyT v.1 z.1)) (key := z.1) En (P.length + 1) with ⟨w, -⟩ | ⟨-, w⟩
                  · exact absurd w c6
                  · exact w
                have dr := ty_dropFrom (d := d - 1) (i := ((P ++ gpN (5, 1, 0, [], k0) En En.length).length : Int)) gT336 (by omega) (rd_ty q6) (by constructor <;> omega)
                have ed : dro (P ++ gpN (5, 1, 0, [], k0) En En.length ++ nrH (decide (how = 2)) f (kyT v.1 z.1), false) ((P ++ gpN (5, 1, 0, [], k0) En En.length).length : Int) = (P ++ gpN (5, 1, 0, [], k0) En En.length, false) := by
                  unfold dro
                  have vl := vt.1.2.1
                  have la : (P ++ gpN (5, 1, 0, [], k0) En En.length ++ nrH (decide (how = 2)) f (kyT v.1 z.1)).length = (P ++ gpN (5, 1, 0, [], k0) En En.length).length + (nrH (decide (how = 2)) f (kyT v.1 z.1)).length := List.length_append
                  rw [if_pos ⟨by omega, by show _ < ((P ++ gpN (5, 1, 0, [], k0) En En.length ++ nrH (decide (how = 2)) f (kyT v.1 z.1)).length : Int); omega⟩]
                  show ((P ++ gpN (5, 1, 0, [], k0) En En.length ++ nrH (decide (how = 2)) f (kyT v.1 z.1)).take _, false) = _
                  rw [Int.toNat_natCast, List.take_left' rfl]
                rw [ed] at dr
                repeat' (first
                  | with_reducible refine ev_gv ?_
                  | with_reducible refine ev_gg ?_ ?_
                  | with_reducible refine ev_ite (fun _ => ?_) (fun _ => ?_)
                  | refine ev_gcr (rd_goes q6) ?_
                  | omega
                  | assumption)
                refine ev_gc dr (fun _ S7 q7 => ?_)
                exact ev_ret (goal ⟨En.length, by rw [ei]; exact rd_tree hs q6 q7⟩)
              · have h2 : how = 2 := by omega
                have dt : decide (how = 2) = true := decide_eq_true h2
                rcases fdE_ins (t := nrH (decide (how = 2)) f (kyT v.1 z.1)) (key := z.1) En (P.length + 1) with ⟨w, -⟩ | ⟨A, u, B, w1, w2, w3, w4⟩
                · exact absurd w c6
                have ei : inH (decide (how = 2)) (nrH (decide (how = 2)) f (kyT v.1 z.1)) z.1 En = A ++ kyT (nrH (decide (how = 2)) f (kyT v.1 z.1)) z.1 :: B := by
                  unfold inH
                  rw [if_pos dt]
                  exact w4
                subst w1
                have rb := rbl_gp (d := d - 1) (c := 336) (c3 := 344) (A := []) (B := []) gT336 gT344 (by decide) (by omega) (show (4 : Int) ≤ 5 by decide) hP hE vt q6.2.2.2.2.2 q6.1.2.2.2.2
                rw [w2] at rb
                rw [w3]
                repeat' (first
                  | with_reducible refine ev_gv ?_
                  | with_reducible refine ev_gg ?_ ?_
                  | with_reducible refine ev_ite (fun _ => ?_) (fun _ => ?_)
                  | refine ev_gcr (rd_goes q6) ?_
                  | omega
                  | assumption)
                refine ev_up (fun n => e_X6_entry_122) ?_
                unfold b_X6_entry_122
                repeat' (first
                  | with_reducible refine ev_gv ?_
                  | with_reducible refine ev_gg ?_ ?_
                  | with_reducible refine ev_ite (fun _ => ?_) (fun _ => ?_)
                  | refine ev_gcr (rd_goes q6) ?_
                  | omega
                  | assumption)
                refine ev_gc rb (fun _ S7 q7 => ?_)
                refine ev_ret (goal ⟨_, by rw [ei]; exact rd_rbl hs q6 q7.1 q7.2.1 q7.2.2⟩)
        · rw [if_neg c5] at q5
          rw [if_neg c5]
          repeat' (first
            | with_reducible refine ev_gv ?_
            | with_reducible refine ev_gg ?_ ?_
            | with_reducible refine ev_ite (fun _ => ?_) (fun _ => ?_)
            | refine ev_gcr (fl_goes q5.1) ?_
            | omega
            | assumption)
          exact ev_ret q5.1
      by_cases c3 : how = 0 ∧ ∃ u ∈ E, rq u = z.1
      · have nfd : fdE z.1 En (P.length + 1) ≠ -1 := fun w => (hex.mp w) ((hkey z.1).mpr c3.2)
        have rp : hdI (34 :: z.2) = 34 := rfl
        have l3 := sf_le r3.2.2.1
        have pl : 0 ≤ S3.1 470 7 - 1 := by
          have pos := rdT_pos 40000 [] (skB r).tail z ho
          have la := sf_le q1.1.2.2.1
          have l1 : (skB r).tail.length ≤ (skB r).length := tl_le _
          have lc := l3.2.2.1
          unfold plI2 at lc
          omega
        have fl := rd_fail (d := d - 1) r3 hs (p := S3.1 470 7 - 1) (by omega)
        have epl : S3.1 470 7 - 1 = plI2 s (34 :: z.2) := by
          rw [l3.2.2.1]
          unfold plI2
          simp only [List.length_cons]
          omega
        rw [epl] at fl
        rw [show bd (bd (.inr z : Rs (List Int × List Int)) (fun z => if how = 0 ∧ ∃ u ∈ E, rq u = z.1 then .inl (34 :: z.2) else if hdI (skB z.2) = 58 then .inr (z.1, (skB z.2).tail) else .inl (skB z.2)) : Rs (List Int × List Int)) (fun z => bd (rdV f how b z.2) (fun v => .inr (kyT v.1 z.1, v.2))) = (.inl (34 :: z.2) : Rs RV) from by
          show bd (if how = 0 ∧ ∃ u ∈ E, rq u = z.1 then .inl (34 :: z.2) else if hdI (skB z.2) = 58 then .inr (z.1, (skB z.2).tail) else .inl (skB z.2) : Rs (List Int × List Int)) _ = _
          rw [if_pos c3]
          rfl]
        repeat' (first
          | with_reducible refine ev_gv ?_
          | with_reducible refine ev_gg ?_ ?_
          | with_reducible refine ev_ite (fun _ => ?_) (fun _ => ?_)
          | refine ev_gcr (rd_goes r3) ?_
          | omega
          | assumption)
        rw [epl]
        refine ev_gc fl (fun _ S4 q4 => ?_)
        exact fl_e65 q4.2.1 hs (by omega)
      · have h0 : how = 0 → fdE z.1 En (P.length + 1) = -1 := fun w => hex.mpr (fun v => c3 ⟨w, (hkey z.1).mp v⟩)
        rw [show bd (bd (.inr z : Rs (List Int × List Int)) (fun z => if how = 0 ∧ ∃ u ∈ E, rq u = z.1 then .inl (34 :: z.2) else if hdI (skB z.2) = 58 then .inr (z.1, (skB z.2).tail) else .inl (skB z.2)) : Rs (List Int × List Int)) (fun z => bd (rdV f how b z.2) (fun v => .inr (kyT v.1 z.1, v.2))) = bd (if hdI (skB z.2) = 58 then .inr (z.1, (skB z.2).tail) else .inl (skB z.2) : Rs (List Int × List Int)) (fun z => bd (rdV f how b z.2) (fun v => (.inr (kyT v.1 z.1, v.2) : Rs RV))) from by
          show bd (if how = 0 ∧ ∃ u ∈ E, rq u = z.1 then .inl (34 :: z.2) else if hdI (skB z.2) = 58 then .inr (z.1, (skB z.2).tail) else .inl (skB z.2) : Rs (List Int × List Int)) _ = _
          rw [if_neg c3]]
        have kk := rest h0
        repeat' (first
          | with_reducible refine ev_gv ?_
          | with_reducible refine ev_gg ?_ ?_
          | with_reducible refine ev_ite (fun _ => ?_) (fun _ => ?_)
          | refine ev_gcr (rd_goes r3) ?_
          | omega
          | assumption)
        all_goals exact kk
  · rw [if_neg c0] at q2
    simp only [if_pos (show hdI (skB r) ≠ 34 from c0)]
    exact bad (a := 0) q2.1 q2.2
end RG
