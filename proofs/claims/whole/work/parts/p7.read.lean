/-! THE REFERENCE's read -/
def srcS (S : GS) (t : List Int) : Prop := S.1 500 15 = (t.length : Int) ∧ (t.length ≤ 900 ∧ rng t) ∧ ∀ i, i < t.length → S.1 508 i = t.getD i 0
abbrev rtP : Nat → Nat → Prop := fun c j => rsP c j ∨ doP 41 c j ∨ c = 505 ∨ c = 506 ∨ c = 513 ∨ c = 514 ∨ c = 515
theorem rt_16 {c j : Nat} (z : c = 500 ∧ j = 16) : rtP c j := Or.inl (Or.inr (Or.inr (Or.inr (Or.inr (Or.inr ⟨z.1, Or.inr (Or.inl z.2)⟩)))))
theorem rt_20 {c j : Nat} (z : c = 500 ∧ (j = 16 ∨ j = 20)) : rtP c j := Or.inl (Or.inr (Or.inr (Or.inr (Or.inr (Or.inr ⟨z.1, z.2.elim (fun y => Or.inr (Or.inl y)) (fun y => Or.inr (Or.inr (Or.inl y)))⟩)))))
theorem rt_40 {c j : Nat} (z : doP 40 c j) : rtP c j := Or.inl (Or.inl z)
theorem rt_41 {c j : Nat} (z : doP 41 c j) : rtP c j := Or.inr (Or.inl z)
theorem rt_s {c j : Nat} (z : c = 505 ∨ c = 506 ∨ c = 513 ∨ c = 514 ∨ c = 515) : rtP c j := Or.inr (Or.inr z)
section RRD
variable {S : GS} {d : Nat} {how : Int} {t : List Int}
theorem q_reads (hd : 12 ≤ d) (hhow : 0 ≤ how ∧ how ≤ 2) (hs : srcS S t) (h22 : inr (S.1 500 22)) : Ev (fun n => f_X12_reads n d 0 S [how]) (fun x S1 => RQ (rdA how t) (fun q => x = (t.length : Int) - q.length ∧ q.length ≤ t.length) (fun T => x = -1 ∧ LK S1 40 (kyT (nrH (decide (how = 2)) 13 T) [])) ∧ inr (S1.1 500 22) ∧ FC rtP S S1) := by
  refine ev_up (fun n => e_X12_reads_0) ?_
  unfold b_X12_reads_0
  refine ev_gg (by first | omega | (constructor <;> omega)) ?_
  refine ev_gc (q_begin1 (d := d - 1) (k := 40) (K := 40) rfl (by decide)) (fun _ S3 qb => ?_)
  obtain ⟨m3, f3⟩ := qb
  refine ev_gv ?_
  refine ev_gv ?_
  have f7 : FC (fun c j => c = 500 ∧ (j = 16 ∨ j = 20)) S3 (gI (gI S3 500 20 0) 500 16 0) := fc_tr (fc_gI ⟨rfl, Or.inr rfl⟩) (fc_gI ⟨rfl, Or.inl rfl⟩)
  have e16 : (gI (gI S3 500 20 0) 500 16 0).1 500 16 = 0 := gI_a
  have e20 : (gI (gI S3 500 20 0) 500 16 0).1 500 20 = 0 := by rw [gI_k (by decide), gI_a]
  generalize gI (gI S3 500 20 0) 500 16 0 = S7 at f7 e16 e20 ⊢
  have f07 : FC rtP S S7 := fc_tr (fc_mono f3 (fun c j z => rt_40 (Or.inr z))) (fc_mono f7 (fun c j z => rt_20 z))
  have r7 : RdS S7 t t := ⟨by rw [fc_i f7 (by omega), fc_i f3 (by omega)]; exact hs.1, hs.2.1, fun i hi => by rw [fc_i f7 (by omega), fc_i f3 (by omega)]; exact hs.2.2 i hi, 0, Nat.zero_le _, e16, rfl⟩
  have h7 : RI S7 t t [] (fun _ => 0) [] := ⟨mdr_fr m3 f7 (fun j _ _ => by omega) (by omega) (by omega), (fun j hj => absurd hj (Nat.not_lt_zero j)), ⟨e20, by decide, fun i hi => absurd hi (Nat.not_lt_zero i)⟩, r7, by rw [fc_i f7 (by omega), fc_i f3 (by omega)]; exact h22⟩
  have tl := hs.2.1.1
  have hinr : inr how := by constructor <;> omega
  refine rs_23 (b := 0) (st := 0) (by omega) h7 (Or.inl rfl) (fun S2 h2 f2 _ => ?_) (fun z => absurd z (by decide))
  have f02 : FC rtP S S2 := fc_tr f07 (fc_mono f2 (fun c j z => rt_16 z))
  refine rs_value (by omega) hinr 13 [] (fun _ => 0) [] [] (skB t) S2 _ 0 h2 (skB_idem t) (by decide) rfl (fun z => absurd rfl z) (by unfold KeS; rw [if_neg (fun z => z.1 rfl)]) (Or.inl rfl) (fun q S4 e r4 f4 i4 => ?_) (fun T b q S4 Pr1 e h4 hp f4 => ?_)
  · have e1 := e
    rw [List.length_nil, ← rdV_sk] at e1
    have e2 : rdA how t = .inl q := by unfold rdA; rw [e1]; rfl
    rw [e2]
    exact ⟨⟨rfl, (rd_len r4).2⟩, i4, fc_tr f02 (fc_mono f4 (fun c j z => Or.inl z))⟩
  · have e1 := e
    rw [List.length_nil, ← rdV_sk] at e1
    have ok : RvOK 13 0 T b := (rdV_ok 13 0 t _ e1 hs.2.1.2).1
    have e2 : rdA how t = if skB q = [] then .inr T else .inl (skB q) := by unfold rdA; rw [e1]; rfl
    have f04 : FC rtP S S4 := fc_tr f02 (fc_mono f4 (fun c j z => Or.inl z))
    have eT : kyT T [] = T := by
      have := ky_self ok.1.1.1.2.1
      rw [ok.2.1] at this
      exact this
    refine rs_23 (b := b) (st := 4) (by omega) h4 (by omega) (fun S5 h5 f5 _ => ?_) (fun _ z => absurd rfl z)
    have f05 : FC rtP S S5 := fc_tr f04 (fc_mono f5 (fun c j z => rt_16 z))
    have r5 := h5.2.2.2.1
    have rl := rd_len r5
    refine ev_up (fun n => e_X12_reads_146) ?_
    unfold b_X12_reads_146
    refine ev_gg (by decide) ?_
    refine ev_ite (fun z => by omega) (fun _ => ?_)
    refine ev_gv ?_
    rw [h5.2.2.1.1]
    refine ev_gg (by decide) ?_
    refine ev_ite (fun z => absurd rfl z) (fun _ => ?_)
    refine ev_up (fun n => e_X12_reads_23) ?_
    unfold b_X12_reads_23
    refine ev_gg (by decide) ?_
    refine ev_ite (fun _ => ?_) (fun z => by omega)
    refine ev_gv ?_
    refine ev_gv ?_
    rw [rd_pl r5, r5.1]
    refine ev_gg (by first | omega | (constructor <;> omega)) ?_
    refine ev_gg (by first | omega | (constructor <;> omega)) ?_
    refine ev_ite (fun y => ?_) (fun y => ?_)
    · have en : skB q = [] := List.length_eq_zero_iff.mp (by omega)
      rw [if_pos en] at e2
      have mr5 : MR S5 40 (mny T) := by
        have := h5.1.2
        rw [eT] at this
        exact this
      have hr : ∀ y ∈ T, NR y := ok.1.2.1
      have dp12 : ∀ g, dpS g T ≤ 12 := fun g => by
        have := ok.1.2.2 g
        omega
      refine ev_gg (by first | omega | (constructor <;> omega)) ?_
      refine ev_gc (q_link (d := d - 1) (K := 40) (V := T) (by omega) rfl (by decide) ok.1.1 hr mr5) (fun _ S6 q6 => ?_)
      obtain ⟨l6, f6⟩ := q6
      have l100 := l6.2.1
      have dD := (rdA_doc (h := decide (how = 2)) e2 hs.2.1.2).1
      have p552 : ∀ w : Int, w = (if how = 2 then 3 else 2) → Ev (fun n => f_X12_reads n d 552 S6 [w, 41, 0, 40]) (fun x S1 => RQ (rdA how t) (fun q => x = (t.length : Int) - q.length ∧ q.length ≤ t.length) (fun T => x = -1 ∧ LK S1 40 (kyT (nrH (decide (how = 2)) 13 T) [])) ∧ inr (S1.1 500 22) ∧ FC rtP S S1) := by
        intro w hw
        have dw : decide (w = 3) = decide (how = 2) := by
          rw [hw]
          by_cases c : how = 2
          · rw [if_pos c, c]; rfl
          · rw [if_neg c, decide_eq_false c]; rfl
        have w23 : w = 2 ∨ w = 3 := by
          rw [hw]
          split
          · exact Or.inr rfl
          · exact Or.inl rfl
        refine ev_up (fun n => e_X12_reads_552) ?_
        unfold b_X12_reads_552
        refine ev_gg (by first | omega | (constructor <;> omega)) ?_
        refine ev_gc (q_chooseNr (d := d - 1) (F := 40) (K := 41) (by omega) rfl (by decide) rfl (by decide) (by decide) w23 ok.1.1 l6 dp12) (fun _ S8 q8 => ?_)
        obtain ⟨m8, f8⟩ := q8
        rw [dw] at m8
        have ml := m8.2.1
        have mlen := m8.2.2.1
        refine ev_gc (q_becomes (d := d - 1) (K := 40) (F := 41) (m := (mny (kyT (nrH (decide (how = 2)) 13 T) [])).length) (by omega) rfl (by decide) rfl (by decide) (by decide) ml (by omega)) (fun _ S9 q9 => ?_)
        obtain ⟨b1, b2, f9⟩ := q9
        have mr9 := mr_cp m8.2 b1 b2
        have sk := sdc_ky dD.1 (q := []) (fun x hx => by cases hx) (by decide)
        refine ev_gc (q_link (d := d - 1) (K := 40) (V := kyT (nrH (decide (how = 2)) 13 T) []) (by omega) rfl (by decide) sk.1 (fun y hy => (sk.2.1 y hy).1) mr9) (fun _ S10 q10 => ?_)
        obtain ⟨l10, f10⟩ := q10
        have l102 := l10.2.1
        refine ev_ret ?_
        rw [e2]
        refine ⟨⟨rfl, l10⟩, ?_, ?_⟩
        · rw [fc_i f10 (by omega), fc_i f9 (by omega), fc_i f8 (by omega), fc_i f6 (by omega)]
          exact h5.2.2.2.2
        · have i6 : ∀ c j, ((c = 501 ∧ 6161 * 40 ≤ j ∧ j < 6161 * 40 + 61 * T.length) ∨ c = 505 ∨ c = 506) → rtP c j := fun c j z => z.elim (fun y => rt_40 (Or.inl ⟨y.1, y.2.1, by omega⟩)) (fun y => rt_s (by omega))
          have i10 : ∀ c j, ((c = 501 ∧ 6161 * 40 ≤ j ∧ j < 6161 * 40 + 61 * (kyT (nrH (decide (how = 2)) 13 T) []).length) ∨ c = 505 ∨ c = 506) → rtP c j := fun c j z => z.elim (fun y => rt_40 (Or.inl ⟨y.1, y.2.1, by omega⟩)) (fun y => rt_s (by omega))
          have i8 : ∀ c j, chP 41 0 c j → rtP c j := fun c j z => z.elim (fun y => rt_41 y) (fun y => rt_s (by omega))
          have i9 : ∀ c j, ((c = 501 ∧ 6161 * 40 ≤ j ∧ j < 6161 * 40 + 6161) ∨ (c = 502 ∧ j = 40)) → rtP c j := fun c j z => rt_40 (by omega)
          exact fc_tr f05 (fc_tr (fc_mono f6 i6) (fc_tr (fc_mono f8 i8) (fc_tr (fc_mono f9 i9) (fc_mono f10 i10))))
      refine ev_gg (by first | omega | (constructor <;> omega)) ?_
      refine ev_ite (fun y2 => ?_) (fun y2 => ?_)
      · exact p552 2 (by rw [if_neg y2])
      · exact p552 3 (by rw [if_pos (by omega)])
    · have en : ¬ skB q = [] := fun z => y (by rw [z]; simp)
      rw [if_neg en] at e2
      refine ev_gv ?_
      refine ev_ret ?_
      rw [e2]
      exact ⟨⟨rfl, rl.2⟩, h5.2.2.2.2, f05⟩
end RRD
section RRE
variable {S0 S : GS} {T0 : List ND} {Ds : List (List ND)} {pg pp : List Int} {r : Int} {L : List Nat} {Q : List (List Int)} {C : List (Int × Int)} {d : Nat}
theorem r_read (hd : 14 ≤ d) (h : RfS S0 T0 Ds pg pp r L Q C S) : Ev (fun n => f_X12_read n d 0 S []) (fun x S1 => if Ds.length < 40 then S1.1 500 0 = 0 ∧ RQ (rdA r pg) (fun q => x = -2 - ((pg.length : Int) - q.length) ∧ RfS S0 T0 Ds [] pp r L Q C S1) (fun T => x = (Ds.length : Int) ∧ RfS S0 T0 (Ds ++ [nrH (decide (r = 2)) 13 T]) [] pp r L Q C S1) else S1.1 500 0 = 1 ∧ RfS S0 T0 Ds pg pp r L Q C S1) := by
  have n4 := h.1.2.1
  have p15 : ∀ s0 : Int, s0 = (if Ds.length < 40 then 1 else 0) → Ev (fun n => f_X12_read n d 15 S [s0]) (fun x S1 => if Ds.length < 40 then S1.1 500 0 = 0 ∧ RQ (rdA r pg) (fun q => x = -2 - ((pg.length : Int) - q.length) ∧ RfS S0 T0 Ds [] pp r L Q C S1) (fun T => x = (Ds.length : Int) ∧ RfS S0 T0 (Ds ++ [nrH (decide (r = 2)) 13 T]) [] pp r L Q C S1) else S1.1 500 0 = 1 ∧ RfS S0 T0 Ds pg pp r L Q C S1) := by
    intro s0 hs0
    refine ev_up (fun n => e_X12_read_15) ?_
    unfold b_X12_read_15
    refine ev_gg (by first | omega | (constructor <;> omega)) ?_
    refine fa_c (p := Ds.length < 40) hs0 h (fun c S1 t1 f1 h1 => ?_) (fun c S1 t1 f1 h1 => ?_)
    · refine ev_gg (by decide) ?_
      refine ev_ite (fun _ => ?_) (fun z => by omega)
      simp only [if_pos c]
      refine ev_gv ?_
      rw [h1.2.1.1]
      refine ev_gv ?_
      have g1 := h1.2.1.2.1
      have fa : FC (fun c j => (c = 500 ∧ j = 15) ∨ c = 508) S1 (gI S1 500 15 (pg.length : Int)) := fc_gI (Or.inl ⟨rfl, rfl⟩)
      have lp : ∀ (v i : Nat) (S2 : GS), i + v = pg.length → FC (fun c j => (c = 500 ∧ j = 15) ∨ c = 508) S1 S2 → S2.1 500 15 = (pg.length : Int) → (∀ k, k < i → S2.1 508 k = pg.getD k 0) → Ev (fun n => f_X12_read n d 34 S2 [(i : Int)]) (fun x S1 => S1.1 500 0 = 0 ∧ RQ (rdA r pg) (fun q => x = -2 - ((pg.length : Int) - q.length) ∧ RfS S0 T0 Ds [] pp r L Q C S1) (fun T => x = (Ds.length : Int) ∧ RfS S0 T0 (Ds ++ [nrH (decide (r = 2)) 13 T]) [] pp r L Q C S1)) := by
        intro v
        induction v with
        | zero =>
          intro i S2 hi f2 c15 ck
          have h2 := rf_sc h1 f2 (fun c j z => by omega)
          have t2 : S2.1 500 0 = 0 := by rw [fc_i f2 (by omega)]; exact t1
          have fp : FC (fun c j => c = 500 ∧ j = 7) S2 (gI S2 500 7 0) := fc_gI ⟨rfl, rfl⟩
          have h3 : RfS S0 T0 Ds [] pp r L Q C (gI S2 500 7 0) := rf_page h2 (fc_mono fp (fun c j z => Or.inl z)) ⟨gI_a, by decide, (fun i hi => absurd hi (Nat.not_lt_zero i)), (fun x hx => absurd hx List.not_mem_nil)⟩
          refine ev_up (fun n => e_X12_read_34) ?_
          unfold b_X12_read_34
          refine ev_gv ?_
          rw [h2.2.1.1]
          refine ev_gg (by first | omega | (constructor <;> omega)) ?_
          refine ev_gg (by first | omega | (constructor <;> omega)) ?_
          refine ev_ite (fun _ => ?_) (fun z => by omega)
          refine ev_gv ?_
          refine ev_gv ?_
          rw [h3.2.2.2.1.1]
          refine ev_gg (by first | omega | (constructor <;> omega)) ?_
          have hr := h3.2.2.2.1.2
          refine ev_gc (q_reads (d := d - 1) (t := pg) (by omega) hr ⟨by rw [fc_i fp (by omega)]; exact c15, ⟨by omega, h2.2.1.2.2.2⟩, fun i hi => by rw [fc_i fp (by omega)]; exact ck i (by omega)⟩ h3.2.2.2.2.2.2.1.2.2.2) (fun x S4 q => ?_)
          obtain ⟨q1, q2, f4⟩ := q
          have h4 := rf_sc22 h3 f4 (fun c j z => by omega) q2
          have t4 : S4.1 500 0 = 0 := by rw [fc_i f4 (by omega), fc_i fp (by omega)]; exact t2
          cases hA : rdA r pg with
          | inl q =>
            rw [hA] at q1
            obtain ⟨q1, q3⟩ := q1
            have q3' : q.length ≤ pg.length := q3
            rw [q1]
            refine ev_gg (by first | omega | (constructor <;> omega)) ?_
            refine ev_ite (fun _ => ?_) (fun z => ?_)
            · refine ev_gv ?_
              exact ev_ret ⟨t4, rfl, h4⟩
            · have z' : ¬ ((pg.length : Int) - q.length ≠ -1) := z
              omega
          | inr T =>
            rw [hA] at q1
            obtain ⟨q1, q3⟩ := q1
            rw [q1]
            refine ev_gg (by decide) ?_
            refine ev_ite (fun z => absurd rfl z) (fun _ => ?_)
            have dD := (rdA_doc (h := decide (r = 2)) hA h2.2.1.2.2.2).1
            have ek : kyT (nrH (decide (r = 2)) 13 T) [] = nrH (decide (r = 2)) 13 T := by
              have := ky_self dD.1.1.1.2.1
              rw [dD.2.2.2] at this
              exact this
            rw [ek] at q3
            refine ev_gc (r_keeps (d := d - 1) (K := 40) (by omega) rfl (by decide) h4 c q3 dD) (fun y S5 q5 => ?_)
            exact ev_ret ⟨by rw [q5.2.1]; exact t4, q5.1, q5.2.2⟩
        | succ v ih =>
          intro i S2 hi f2 c15 ck
          have h2 := rf_sc h1 f2 (fun c j z => by omega)
          have fb : FC (fun c j => c = 508) S2 (gI S2 508 i (pg.getD i 0)) := fc_gI rfl
          refine ev_up (fun n => e_X12_read_34) ?_
          unfold b_X12_read_34
          refine ev_gv ?_
          rw [h2.2.1.1]
          refine ev_gg (by first | omega | (constructor <;> omega)) ?_
          refine ev_gg (by first | omega | (constructor <;> omega)) ?_
          refine ev_ite (fun z => by omega) (fun _ => ?_)
          refine ev_gg (by first | omega | (constructor <;> omega)) ?_
          refine ev_gv ?_
          rw [Int.toNat_natCast, h2.2.1.2.2.1 i (by omega)]
          refine ev_gg (by first | omega | (constructor <;> omega)) ?_
          refine ev_gv ?_
          refine ev_gv ?_
          rw [show (i : Int) + 1 = ((i + 1 : Nat) : Int) by omega]
          refine ih (i + 1) _ (by omega) (fc_tr f2 (fc_mono fb (fun c j z => by omega))) (by rw [fc_i fb (by omega)]; exact c15) (fun k hk => ?_)
          by_cases e : k = i
          · subst e; rw [gI_a]
          · rw [gI_k e]; exact ck k (by omega)
      exact lp pg.length 0 _ (by omega) fa gI_a (fun k hk => absurd hk (Nat.not_lt_zero k))
    · refine ev_gg (by decide) ?_
      refine ev_ite (fun z => by omega) (fun _ => ?_)
      simp only [if_neg c]
      exact ev_ret ⟨t1, h1⟩
  refine ev_up (fun n => e_X12_read_0) ?_
  unfold b_X12_read_0
  refine ev_gv ?_
  rw [h.1.1]
  refine ev_gg (by first | omega | (constructor <;> omega)) ?_
  refine ev_ite (fun y => ?_) (fun y => ?_)
  · exact p15 0 (by rw [if_neg (by omega)])
  · exact p15 1 (by rw [if_pos (by omega)])
end RRE
