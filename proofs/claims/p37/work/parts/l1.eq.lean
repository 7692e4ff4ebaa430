/-! What was written is read as it was: DOCUMENTS; EQUAL is written alike -/
theorem flat_map_len {h : List ND → List ND} : ∀ (L : List (List ND)), (∀ t ∈ L, (h t).length = t.length) → (L.map h).flatten.length = L.flatten.length
  | [], _ => rfl
  | t :: L, e => by
    rw [List.map_cons, List.flatten_cons, List.flatten_cons, List.length_append, List.length_append, e t List.mem_cons_self, flat_map_len L (fun u hu => e u (List.mem_cons_of_mem _ hu))]
theorem wo_sdc {w : Int} : ∀ (f : Nat) (T : List ND), SDC T → T.length ≤ 100 → SDC (woF w f T) ∧ (woF w f T).length = T.length
  | 0, T, h, hl => ⟨h, rfl⟩
  | f + 1, T, h, hl => by
    unfold woF
    by_cases c : 4 ≤ rk T
    · rw [if_pos c]
      have pm := koS_perm (w := w) h hl
      have fl := (List.Perm.flatten pm).length_eq
      have lk := len_kd h.1
      have kt : ∀ t ∈ koS w T, t ∈ kd T := koS_mem
      have ih : ∀ t ∈ koS w T, SDC (woF w f t) ∧ (woF w f t).length = t.length := fun t ht => wo_sdc f t (sdc_kd h (kt t ht)) (by have := mem_len (kt t ht); omega)
      have ml := flat_map_len (h := woF w f) (koS w T) (fun t ht => (ih t ht).2)
      have mq : ((koS w T).map (woF w f)).map rq = (koS w T).map rq := by
        rw [List.map_map]
        exact List.map_congr_left (fun t _ => (wo_rq f t).1)
      have l1 : ((koS w T).map (woF w f)).flatten.length < 100 := by omega
      refine ⟨sdc_gp (x := T.getD 0 nd0) c (root_nr h) (fun u hu => ?_) (fun e => ?_) (fun e u hu => ?_) l1, ?_⟩
      · obtain ⟨t, ht, rfl⟩ := List.mem_map.mp hu
        exact (ih t ht).1
      · rw [mq]
        exact List.Perm.nodup ((pm.map rq).symm) ((h.2.2 1).1 e)
      · obtain ⟨t, ht, rfl⟩ := List.mem_map.mp hu
        rw [(wo_rq f t).1]
        exact (h.2.2 1).2.1 e t (kt t ht)
      · rw [gp_len, ml, fl]
        omega
    · rw [if_neg c]
      exact ⟨h, rfl⟩
theorem wr_hd {T : List ND} {f : Nat} {w : Int} {ind : Nat} (h : SDC T) : hdI (wrF f w ind T) ≠ 93 := by
  have leaf : rk T < 4 → hdI (wsc T) ≠ 93 := by
    intro hk
    obtain ⟨nr, vn⟩ := root_nr h
    have rk_ : rk T = (T.getD 0 nd0).1 := rfl
    unfold wsc
    rw [sx_12, sx_13, sx_14]
    split
    · decide
    · split
      · split <;> decide
      · split
        · rename_i c
          have nb : NbOK (rt T) (rp T) := by
            rcases vn with v | v | v | v | v
            · omega
            · omega
            · exact v.2
            · omega
            · omega
          have := (rdNb_back (R := []) nb (Or.inl rfl)).2
          rw [List.append_nil] at this
          intro z
          rw [z] at this
          rcases this with q | q
          · cases q
          · have : (93 : Int) ≤ 57 := q.2
            omega
        · show (34 : Int) ≠ 93
          decide
  cases f with
  | zero =>
    by_cases c : rk T < 4
    · exact leaf c
    · show hdI (wsc T) ≠ 93
      unfold wsc
      rw [if_neg (by omega), if_neg (by omega), if_neg (by omega)]
      show (34 : Int) ≠ 93
      decide
  | succ f =>
    by_cases c : rk T < 4
    · rw [wr_leaf c]; exact leaf c
    · unfold wrF
      rw [if_neg c]
      show (if rk T = 5 then (123 : Int) else 91) ≠ 93
      split <;> decide
theorem grp_root {x : ND} {k : Int} {n : Nat} (hx : x.1 = k) (hp : x.2.2.1 = 0) (ht : x.2.2.2.1 = []) : wQ (wZ x n) [] = wZ (ndK k) n := by
  obtain ⟨a, b, c, e, f⟩ := x
  dsimp only at hx hp ht
  subst hx hp ht
  rfl
theorem vn_grp {T : List ND} (h : SDC T) (c : 4 ≤ rk T) : (T.getD 0 nd0).2.2.1 = 0 ∧ (T.getD 0 nd0).2.2.2.1 = [] ∧ (rk T = 4 ∨ rk T = 5) := by
  obtain ⟨nr, vn⟩ := root_nr h
  have rk_ : rk T = (T.getD 0 nd0).1 := rfl
  have := nr.2.1
  rcases vn with v | v | v | v | v
  · omega
  · omega
  · omega
  · omega
  · exact ⟨v.2.1, v.2.2, by omega⟩
/-- a VALUE that was written is read back -/
theorem rd_back {w how : Int} : ∀ (f : Nat) (T : List ND) (F ind b : Nat) (R : List Int), SDC T → T.length ≤ 100 → (∀ r, dpS r T ≤ (f : Int)) → b + T.length ≤ 100 → bkR R → f < F → rdV F how b (wrF f w ind T ++ R) = .inr (kyT (woF w f T) [], b + T.length, R) ∧ ∃ x r, wrF f w ind T = x :: r ∧ x ≠ 32 ∧ x ≠ 10
  | 0, T, F, ind, b, R, h, hl, hd, hb, hR, hF => by
    obtain ⟨F, rfl⟩ : ∃ F', F = F' + 1 := ⟨F - 1, by omega⟩
    have h0 := hd 0
    unfold dpS at h0
    have c : rk T < 4 := by
      by_cases c : 4 ≤ rk T
      · rw [if_pos c] at h0; omega
      · omega
    have l1 : T.length = 1 := by rw [(one_leaf h c).1]; rfl
    have := leaf_back (f := F) (b := b) (how := how) h c hR (by omega)
    rw [l1]
    exact this
  | f + 1, T, F, ind, b, R, h, hl, hd, hb, hR, hF => by
    obtain ⟨F, rfl⟩ : ∃ F', F = F' + 1 := ⟨F - 1, by omega⟩
    by_cases c : rk T < 4
    · have l1 : T.length = 1 := by rw [(one_leaf h c).1]; rfl
      have := leaf_back (f := F) (b := b) (how := how) h c hR (by omega)
      rw [l1, wr_leaf c]
      have e : woF w (f + 1) T = T := by unfold woF; rw [if_neg (by omega)]
      rw [e]
      exact this
    · have c4 : 4 ≤ rk T := by omega
      obtain ⟨v1, v2, v3⟩ := vn_grp h c4
      have pm := koS_perm (w := w) h hl
      have fl := (List.Perm.flatten pm).length_eq
      have lk := len_kd h.1
      have kt : ∀ t ∈ koS w T, t ∈ kd T := koS_mem
      have ew : wrF (f + 1) w ind T = (if rk T = 5 then 123 else 91) :: (wbd (wli w T) (decide (rk T = 5)) ind (wrF f w (ind + 1)) true (koS w T) ++ wend (wli w T) (decide (rk T = 5)) ind) := by
        show (if rk T < 4 then _ else _) = _
        rw [if_neg c]
        simp
      have hop : (if rk T = 5 then (123 : Int) else 91) ≠ 32 ∧ (if rk T = 5 then (123 : Int) else 91) ≠ 10 := by split <;> decide
      refine ⟨?_, _, _, ew, hop.1, hop.2⟩
      rw [ew, List.cons_append]
      have e1 : woF w (f + 1) T = gpN (T.getD 0 nd0) ((koS w T).map (woF w f)) ((koS w T).map (woF w f)).length := by unfold woF; rw [if_pos c4]
      have e2 : kyT (woF w (f + 1) T) [] = gpN (ndK (if decide (rk T = 5) then 5 else 4)) ((koS w T).map (woF w f)) ((koS w T).map (woF w f)).length := by
        rw [e1]
        unfold gpN kyT
        show wQ (wZ (T.getD 0 nd0) _) [] :: _ = _
        rw [grp_root (k := if decide (rk T = 5) then 5 else 4) (by
          show rk T = _
          by_cases q : rk T = 5
          · rw [decide_eq_true q, if_pos rfl]; exact q
          · rw [decide_eq_false q, if_neg (by decide)]; omega) v1 v2]
        rfl
      rw [e2]
      have core : rdG (rdV F how) (decide (rk T = 5)) how (b + 1) (wbd (wli w T) (decide (rk T = 5)) ind (wrF f w (ind + 1)) true (koS w T) ++ wend (wli w T) (decide (rk T = 5)) ind ++ R) = .inr (gpN (ndK (if decide (rk T = 5) then 5 else 4)) ((koS w T).map (woF w f)) ((koS w T).map (woF w f)).length, b + T.length, R) := by
        unfold rdG
        cases eL : koS w T with
        | nil =>
          rw [eL] at pm fl
          have kn : kd T = [] := List.Perm.eq_nil (pm.symm)
          have ln : wli w T = false := by unfold wli; rw [kn]; simp
          rw [ln]
          have ex : wbd false (decide (rk T = 5)) ind (wrF f w (ind + 1)) true [] ++ wend false (decide (rk T = 5)) ind ++ R = (if rk T = 5 then 125 else 93) :: R := by
            unfold wend
            show [] ++ ([] ++ [if decide (rk T = 5) = true then (125 : Int) else 93]) ++ R = _
            simp only [decide_eq_true_eq, List.nil_append, List.singleton_append]
          rw [ex]
          have cb : (if rk T = 5 then (125 : Int) else 93) ≠ 32 ∧ (if rk T = 5 then (125 : Int) else 93) ≠ 10 := by split <;> decide
          rw [skB_ne cb, if_pos (by unfold enD; show (if rk T = 5 then (125 : Int) else 93) = _; simp only [decide_eq_true_eq])]
          rw [kn] at lk
          rw [lk]
          rfl
        | cons t L =>
          rw [eL] at pm fl
          have dk : ∀ u ∈ t :: L, u ∈ kd T := fun u hu => kt u (by rw [eL]; exact hu)
          have hLs : ∀ u ∈ t :: L, (rng (rq u) ∧ (rq u).length ≤ 12) ∧ (∃ x r, wrF f w (ind + 1) u = x :: r ∧ x ≠ 32 ∧ x ≠ 10) ∧ (∀ b R, b + u.length ≤ 100 → bkR R → rdV F how b (wrF f w (ind + 1) u ++ R) = .inr (kyT (woF w f u) [], b + u.length, R)) ∧ (rq (woF w f u) = rq u ∧ 1 ≤ (woF w f u).length) ∧ (decide (rk T = 5) = false → rq u = []) ∧ 1 ≤ u.length := fun u hu => by
            have uk := dk u hu
            have su := sdc_kd h uk
            have ul : u.length ≤ 100 := by have := mem_len uk; omega
            have u1 := su.1.1.2.1
            have du : ∀ r, dpS r u ≤ (f : Int) := dp_kd hd c4 uk
            have ih := fun b R hb hR => rd_back (w := w) (how := how) f u F (ind + 1) b R su ul du hb hR (by omega)
            refine ⟨⟨(rq_ok su).2, (rq_ok su).1⟩, (ih 0 [] (by omega) (Or.inl rfl)).2, fun b R hb hR => (ih b R hb hR).1, ⟨(wo_rq f u).1, by rw [(wo_sdc f u su ul).2]; exact u1⟩, fun m => ?_, u1⟩
            have := of_decide_eq_false m
            exact (h.2.2 1).2.1 (by omega) u uk
          have nd : decide (rk T = 5) = true → ((t :: L).map rq).Nodup := fun m => List.Perm.nodup ((pm.map rq).symm) ((h.2.2 1).1 (of_decide_eq_true m))
          have et : wbd (wli w T) (decide (rk T = 5)) ind (wrF f w (ind + 1)) true (t :: L) ++ wend (wli w T) (decide (rk T = 5)) ind ++ R = (if wli w T then wln (ind + 1) else []) ++ (stV (wrF f w (ind + 1)) (decide (rk T = 5)) (wli w T) t ++ (wbd (wli w T) (decide (rk T = 5)) ind (wrF f w (ind + 1)) false L ++ (wend (wli w T) (decide (rk T = 5)) ind ++ R))) := by
            show wpr true (wli w T) (decide (rk T = 5)) ind (rq t) ++ wrF f w (ind + 1) t ++ wbd (wli w T) (decide (rk T = 5)) ind (wrF f w (ind + 1)) false L ++ wend (wli w T) (decide (rk T = 5)) ind ++ R = _
            rw [wpr_eq, if_pos rfl]
            simp
          rw [et, skB_pre]
          obtain ⟨c1, c2, c3, c4', c5, c6⟩ := hLs t List.mem_cons_self
          have sk : skB (stV (wrF f w (ind + 1)) (decide (rk T = 5)) (wli w T) t ++ (wbd (wli w T) (decide (rk T = 5)) ind (wrF f w (ind + 1)) false L ++ (wend (wli w T) (decide (rk T = 5)) ind ++ R))) = stV (wrF f w (ind + 1)) (decide (rk T = 5)) (wli w T) t ++ (wbd (wli w T) (decide (rk T = 5)) ind (wrF f w (ind + 1)) false L ++ (wend (wli w T) (decide (rk T = 5)) ind ++ R)) ∧ hdI (stV (wrF f w (ind + 1)) (decide (rk T = 5)) (wli w T) t ++ (wbd (wli w T) (decide (rk T = 5)) ind (wrF f w (ind + 1)) false L ++ (wend (wli w T) (decide (rk T = 5)) ind ++ R))) ≠ enD (decide (rk T = 5)) := by
            unfold stV enD
            by_cases q : rk T = 5
            · rw [decide_eq_true q, if_pos rfl, if_pos rfl]
              unfold wq
              simp only [List.append_assoc, List.singleton_append]
              exact ⟨skB_ne (by decide), by show (34 : Int) ≠ 125; decide⟩
            · rw [decide_eq_false q, if_neg (by decide), if_neg (by decide), List.nil_append]
              obtain ⟨x, r, e, nx⟩ := c2
              have hh := wr_hd (f := f) (w := w) (ind := ind + 1) (sdc_kd h (dk t List.mem_cons_self))
              rw [e] at hh ⊢
              rw [List.cons_append]
              exact ⟨skB_ne nx, hh⟩
          rw [sk.1, if_neg sk.2]
          have lb := L_back (how := how) (g := wrF f w (ind + 1)) (G := rdV F how) (wo := woF w f) (mp := decide (rk T = 5)) (ln := wli w T) (ind := ind) (fun b r => rdV_sk) (R0 := R) (L0 := t :: L) hLs nd L t [] (b + 1) 101 _ (fun u hu => hu) (fun m => by rw [List.map_nil, List.nil_append]; exact nd m) (by
            have : ∀ (E : List (List ND)), (∀ t ∈ E, 1 ≤ t.length) → E.length ≤ E.flatten.length := by
              intro E
              induction E with
              | nil => intro _; exact Nat.le_refl _
              | cons t E ih =>
                intro hE
                have a := hE t List.mem_cons_self
                have b := ih (fun u hu => hE u (List.mem_cons_of_mem _ hu))
                rw [List.length_cons, List.flatten_cons, List.length_append]
                omega
            have := this (t :: L) (fun u hu => (hLs u hu).2.2.2.2.2)
            rw [List.length_cons] at this
            omega) (by omega) sk.1
          rw [lb, List.nil_append, show b + 1 + (t :: L).flatten.length = b + T.length by omega]
          rfl
      have hs := skB_ne (r := wbd (wli w T) (decide (rk T = 5)) ind (wrF f w (ind + 1)) true (koS w T) ++ wend (wli w T) (decide (rk T = 5)) ind ++ R) hop
      unfold rdV
      rw [hs, if_neg (show ¬ (_ = [] ∨ 100 ≤ b) from fun z => z.elim (fun q => by cases q) (fun q => by have := h.1.1.2.1; omega))]
      show (if (if rk T = 5 then (123 : Int) else 91) = 91 ∨ (if rk T = 5 then (123 : Int) else 91) = 123 then (if F = 0 then _ else rdG (rdV F how) (decide ((if rk T = 5 then (123 : Int) else 91) = 123)) how (b + 1) (wbd (wli w T) (decide (rk T = 5)) ind (wrF f w (ind + 1)) true (koS w T) ++ wend (wli w T) (decide (rk T = 5)) ind ++ R)) else _) = _
      have ed : decide ((if rk T = 5 then (123 : Int) else 91) = 123) = decide (rk T = 5) := by
        by_cases q : rk T = 5
        · rw [if_pos q, decide_eq_true q]; rfl
        · rw [if_neg q, decide_eq_false q]; rfl
      rw [if_pos (by by_cases q : rk T = 5; rw [if_pos q]; exact Or.inr rfl; rw [if_neg q]; exact Or.inl rfl), if_neg (by omega), ed]
      exact core
theorem rdA_back {w how : Int} {T : List ND} (h : SDC T) (hl : T.length ≤ 100) (hd : ∀ r, dpS r T ≤ 12) : rdA how (wrF 12 w 0 T) = .inr (kyT (woF w 12 T) []) := by
  have := (rd_back (w := w) (how := how) 12 T 13 0 0 [] h hl hd (by omega) (Or.inl rfl) (by decide)).1
  rw [List.append_nil] at this
  unfold rdA
  rw [this]
  rfl
