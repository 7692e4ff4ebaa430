/-! THE REFERENCE's grow, vary -/
theorem doc_p {T : List ND} (h : SDC T) (hp : pOK T) (hq : rq T = []) : DOC T := ⟨h, fun g => dp_all 13 T 12 hp.2 (by decide) g, hp.1, hq⟩
/-- the VALUE that vary brings -/
def vrT (seed : Int) : List ND := nr3 2 (grF 2 2 2 (dr seed)).1
/-- what vary makes -/
def vrW (V : List ND) (seed : Int) : List ND := updF (fun c => kyT (vrT seed) (rq c)) V.length V (dv seed V.length).toNat
theorem vrT_ok {seed : Int} : SDC (vrT seed) ∧ (∀ g, dpS g (vrT seed) ≤ 3) ∧ (vrT seed).length ≤ 40 ∧ rq (vrT seed) = [] := gr_sdc (sz := 2) (lv := 2) (f := 2) (by decide) (by decide) (by decide) (by decide) dr_r
theorem vr_at {V : List ND} {seed : Int} (h : 1 ≤ V.length) : (dv seed V.length).toNat < V.length ∧ dv seed V.length = ((dv seed V.length).toNat : Int) := by
  have := dv_r (st := seed) (n := V.length) (by omega)
  omega
theorem vrW_ok {V : List ND} {seed : Int} (h : DOC V) : (TR (vrW V seed) ∧ PZL (vrW V seed)) ∧ (pOK (vrW V seed) → DOC (vrW V seed)) ∧ ((vrW V seed).length ≤ 100 → SDC (vrW V seed) ∧ rq (vrW V seed) = []) := by
  have l1 := h.1.1.1.2.1
  obtain ⟨il, _⟩ := vr_at (seed := seed) l1
  have vo := vrT_ok (seed := seed)
  have sv := sdc_sg V.length V (Nat.le_refl _) h.1 _ il
  have kr := (sv.2.1 _ (nd_mem sv.1.1.2.1)).1
  have sk : SDC (kyT (vrT seed) (rq (sg V (dv seed V.length).toNat))) := sdc_ky vo.1 kr.2.2.2.2.2.2.2.2.2 kr.2.2.2.2.2.2.2.2.1
  have tr := (upd_tr (h := fun c => kyT (vrT seed) (rq c)) V.length V _ (Nat.le_refl _) h.1.1 il sk.1).1
  have sd : (vrW V seed).length ≤ 100 → SDC (vrW V seed) ∧ rq (vrW V seed) = [] := fun hl => by
    have := upd_sdc (h := fun c => kyT (vrT seed) (rq c)) V.length V _ (Nat.le_refl _) h.1 il sk rfl hl
    exact ⟨this.1, this.2.trans h.2.2.2⟩
  exact ⟨tr, fun hp => doc_p (sd hp.1).1 hp (sd hp.1).2, sd⟩
theorem grw_D {seed sz : Int} (hs : 0 ≤ seed ∧ seed < 65536) (hz : 1 ≤ sz ∧ sz ≤ 3) : DOC (grw seed sz) := by
  have g := gr_sdc (lv := 0) (f := 4) hz (by decide) (by decide) (by decide) hs
  exact ⟨g.1, fun r => by have := g.2.1 r; unfold grw; omega, by have := g.2.2.1; unfold grw; omega, g.2.2.2⟩
section RGW
variable {S0 S : GS} {T0 : List ND} {Ds : List (List ND)} {pg pp : List Int} {r : Int} {L : List Nat} {Q : List (List Int)} {C : List (Int × Int)} {d : Nat}
theorem r_grow {a z : Int} (hd : 13 ≤ d) (ha : inr a) (hz : inr z) (h : RfS S0 T0 Ds pg pp r L Q C S) : Ev (fun n => f_X12_grow n d 0 S [a, z]) (fun x S1 => if (0 ≤ a ∧ a < 65536) ∧ 1 ≤ z ∧ z ≤ 3 then (if Ds.length < 40 then x = (Ds.length : Int) ∧ S1.1 500 0 = 0 ∧ RfS S0 T0 (Ds ++ [grw a z]) pg pp r L Q C S1 else S1.1 500 0 = 2 ∧ RfS S0 T0 Ds pg pp r L Q C S1) else S1.1 500 0 = 1 ∧ RfS S0 T0 Ds pg pp r L Q C S1) := by
  have n4 := h.1.2.1
  have p48 : ∀ (S2 : GS) (s0 : Int), ((0 ≤ a ∧ a < 65536) ∧ 1 ≤ z ∧ z ≤ 3) → s0 = (if Ds.length < 40 then 1 else 0) → RfS S0 T0 Ds pg pp r L Q C S2 → Ev (fun n => f_X12_grow n d 48 S2 [a, z, s0]) (fun x S1 => if Ds.length < 40 then x = (Ds.length : Int) ∧ S1.1 500 0 = 0 ∧ RfS S0 T0 (Ds ++ [grw a z]) pg pp r L Q C S1 else S1.1 500 0 = 2 ∧ RfS S0 T0 Ds pg pp r L Q C S1) := by
    intro S2 s0 hc hs h2
    refine ev_up (fun n => e_X12_grow_48) ?_
    unfold b_X12_grow_48
    refine ev_gg (by first | omega | (constructor <;> omega)) ?_
    refine fa_c (p := Ds.length < 40) hs h2 (fun c S3 t3 f3 h3 => ?_) (fun c S3 t3 f3 h3 => ?_)
    · refine ev_gg (by decide) ?_
      refine ev_ite (fun _ => ?_) (fun z => by omega)
      simp only [if_pos c]
      refine ev_gv ?_
      have f4 : FC (fun c j => c = 500 ∧ j = 83) S3 (gI S3 500 83 a) := fc_gI ⟨rfl, rfl⟩
      refine ev_gc (q_grows (d := d - 1) (lv := 0) (f := 4) (st := a) (by omega) hc.2 (Or.inl rfl) (by decide) hc.1 gI_a) (fun _ S5 q => ?_)
      obtain ⟨l5, f5⟩ := q
      have h5 := rf_sc h3 (fc_tr (fc_mono f4 (fun c j z => Or.inl z)) (fc_mono f5 (fun c j z => Or.inr z))) (fun c j z => by omega)
      refine ev_gc (r_keeps (d := d - 1) (K := 41) (by omega) rfl (by decide) h5 c l5 (grw_D hc.1 hc.2)) (fun x S6 q6 => ?_)
      refine ev_ret ⟨q6.1, ?_, q6.2.2⟩
      rw [q6.2.1, fc_i f5 (by omega), fc_i f4 (by omega)]
      exact t3
    · refine ev_gg (by decide) ?_
      refine ev_ite (fun z => by omega) (fun _ => ?_)
      simp only [if_neg c]
      exact ev_ret ⟨t3, h3⟩
  have p26 : ∀ s0 : Int, s0 = (if (0 ≤ a ∧ a < 65536) ∧ 1 ≤ z ∧ z ≤ 3 then 1 else 0) → Ev (fun n => f_X12_grow n d 26 S [a, z, s0]) (fun x S1 => if (0 ≤ a ∧ a < 65536) ∧ 1 ≤ z ∧ z ≤ 3 then (if Ds.length < 40 then x = (Ds.length : Int) ∧ S1.1 500 0 = 0 ∧ RfS S0 T0 (Ds ++ [grw a z]) pg pp r L Q C S1 else S1.1 500 0 = 2 ∧ RfS S0 T0 Ds pg pp r L Q C S1) else S1.1 500 0 = 1 ∧ RfS S0 T0 Ds pg pp r L Q C S1) := by
    intro s0 hs
    refine ev_up (fun n => e_X12_grow_26) ?_
    unfold b_X12_grow_26
    refine ev_gg (by first | omega | (constructor <;> omega)) ?_
    refine fa_c (p := (0 ≤ a ∧ a < 65536) ∧ 1 ≤ z ∧ z ≤ 3) hs h (fun c S2 t2 f2 h2 => ?_) (fun c S2 t2 f2 h2 => ?_)
    · refine ev_gg (by decide) ?_
      refine ev_ite (fun y => absurd rfl y) (fun _ => ?_)
      simp only [if_pos c]
      refine ev_gv ?_
      rw [h2.1.1]
      refine ev_gg (by first | omega | (constructor <;> omega)) ?_
      refine ev_ite (fun y => ?_) (fun y => ?_)
      · exact p48 S2 0 c (by rw [if_neg (by omega)]) h2
      · exact p48 S2 1 c (by rw [if_pos (by omega)]) h2
    · refine ev_gg (by decide) ?_
      refine ev_ite (fun _ => ?_) (fun y => absurd (by decide) y)
      simp only [if_neg c]
      exact ev_ret ⟨t2, h2⟩
  refine ev_up (fun n => e_X12_grow_0) ?_
  unfold b_X12_grow_0
  refine ev_gg (by first | omega | (constructor <;> omega)) ?_
  refine ev_gcr (q_in (d := d - 1) ⟨ha, by decide, by decide⟩) ?_
  by_cases c1 : 0 ≤ a ∧ a ≤ 65535
  · rw [if_pos c1]
    refine ev_gg (by decide) ?_
    refine ev_ite (fun z => by omega) (fun _ => ?_)
    refine ev_gcr (q_in (d := d - 1) ⟨hz, by decide, by decide⟩) ?_
    by_cases c2 : 1 ≤ z ∧ z ≤ 3
    · rw [if_pos c2]
      refine ev_gg (by decide) ?_
      refine ev_ite (fun z => by omega) (fun _ => ?_)
      exact p26 1 (by rw [if_pos ⟨by omega, c2⟩])
    · rw [if_neg c2]
      refine ev_gg (by decide) ?_
      refine ev_ite (fun _ => ?_) (fun z => by omega)
      exact p26 0 (by rw [if_neg (fun y => c2 y.2)])
  · rw [if_neg c1]
    refine ev_gg (by decide) ?_
    refine ev_ite (fun _ => ?_) (fun z => by omega)
    exact p26 0 (by rw [if_neg (fun y => c1 (by omega))])
theorem r_vary {a z : Int} (hd : 13 ≤ d) (ha : inr a) (hz : inr z) (h : RfS S0 T0 Ds pg pp r L Q C S) : Ev (fun n => f_X12_vary n d 0 S [a, z]) (fun x S1 => if hasD Ds a then (if 0 ≤ z ∧ z < 65536 then (if pOK (vrW (atD' Ds a) z) ∧ Ds.length < 40 then x = (Ds.length : Int) ∧ S1.1 500 0 = 0 ∧ RfS S0 T0 (Ds ++ [vrW (atD' Ds a) z]) pg pp r L Q C S1 else S1.1 500 0 = 3 ∧ RfS S0 T0 Ds pg pp r L Q C S1) else S1.1 500 0 = 2 ∧ RfS S0 T0 Ds pg pp r L Q C S1) else S1.1 500 0 = 1 ∧ RfS S0 T0 Ds pg pp r L Q C S1) := by
  have n4 := h.1.2.1
  refine ev_up (fun n => e_X12_vary_0) ?_
  unfold b_X12_vary_0
  refine ev_gg (by first | omega | (constructor <;> omega)) ?_
  refine ev_gcr (r_isDoc (d := d - 1) (by omega) ha h) ?_
  refine fa_c (p := hasD Ds a) rfl h (fun c S1 t1 f1 h1 => ?_) (fun c S1 t1 f1 h1 => ?_)
  · refine ev_gg (by decide) ?_
    refine ev_ite (fun y => absurd rfl y) (fun _ => ?_)
    simp only [if_pos c]
    refine ev_gcr (q_in (d := d - 1) ⟨hz, by decide, by decide⟩) ?_
    refine fa_c (p := 0 ≤ z ∧ z ≤ 65535) rfl h1 (fun c2 S2 t2 f2 h2 => ?_) (fun c2 S2 t2 f2 h2 => ?_)
    · have c2' : 0 ≤ z ∧ z < 65536 := by omega
      refine ev_gg (by decide) ?_
      refine ev_ite (fun _ => ?_) (fun z => by omega)
      simp only [if_pos c2']
      refine ev_gv ?_
      have f3 : FC (fun c j => c = 500 ∧ j = 83) S2 (gI S2 500 83 z) := fc_gI ⟨rfl, rfl⟩
      have h3 := rf_sc h2 f3 (fun c j z => by omega)
      obtain ⟨e1, e2, e3, e4⟩ := r_at h3 c
      have l1 := e4.1.1.1.2.1
      have l100 := e4.2.2.1
      refine ev_gg (by first | omega | (constructor <;> omega)) ?_
      refine ev_gv ?_
      rw [e3.1]
      have va := vr_at (seed := z) l1
      refine ev_gc (q_draw (d := d - 1) (st := z) gI_a c2' (by omega)) (fun y S4 q => ?_)
      obtain ⟨ye, se⟩ := q
      subst ye se
      have h4 := rf_sc h3 (fc_gI (P := fun c j => c = 500 ∧ j = 83) (k := 83) (x := dr z) ⟨rfl, rfl⟩) (fun c j z => by omega)
      refine ev_gc (q_grows (d := d - 1) (lv := 2) (sz := 2) (f := 2) (st := dr z) (by omega) (by decide) (Or.inr rfl) (by decide) dr_r gI_a) (fun _ S5 q => ?_)
      obtain ⟨l5, f5⟩ := q
      have h5 := rf_sc h4 f5 (fun c j z => by omega)
      have vo := vrT_ok (seed := z)
      have v5 := (r_at h5 c).2.2.1
      refine ev_gc (q_replaced (d := d - 1) (K := 43) (F := a.toNat) (I := (dv z (atD' Ds a).length).toNat) (G := 41) (J := 0) (V := atD' Ds a) (U := vrT z) (by omega) rfl (by decide) e1 (by omega) va.2 rfl (by decide) rfl (by omega) (by decide) e4.1.1 vo.1.1 v5 l5 va.1 vo.1.1.1.2.1) (fun _ S6 q6 => ?_)
      obtain ⟨m6, f6⟩ := q6
      rw [sg_self vo.1.1.1] at m6
      have wk := vrW_ok (seed := z) e4
      have h6 := rf_sc h5 f6 (fun c j z => by omega)
      refine ev_gc (q_isWhole (d := d - 1) (K := 43) (T := vrW (atD' Ds a) z) (by omega) rfl (by decide) wk.1 (fun hl y hy => ((wk.2.2 hl).1.2.1 y hy).1) m6) (fun x S7 q7 => ?_)
      obtain ⟨x7, l7, f7⟩ := q7
      have h7 := rf_sc h6 f7 (fun c j z => by omega)
      have p88 : ∀ s0 : Int, s0 = (if pOK (vrW (atD' Ds a) z) ∧ Ds.length < 40 then 1 else 0) → Ev (fun n => f_X12_vary n d 88 S7 [s0]) (fun x S1 => if pOK (vrW (atD' Ds a) z) ∧ Ds.length < 40 then x = (Ds.length : Int) ∧ S1.1 500 0 = 0 ∧ RfS S0 T0 (Ds ++ [vrW (atD' Ds a) z]) pg pp r L Q C S1 else S1.1 500 0 = 3 ∧ RfS S0 T0 Ds pg pp r L Q C S1) := by
        intro s0 hs
        refine ev_up (fun n => e_X12_vary_88) ?_
        unfold b_X12_vary_88
        refine ev_gg (by first | omega | (constructor <;> omega)) ?_
        refine fa_c (p := pOK (vrW (atD' Ds a) z) ∧ Ds.length < 40) hs h7 (fun c3 S8 t8 f8 h8 => ?_) (fun c3 S8 t8 f8 h8 => ?_)
        · refine ev_gg (by decide) ?_
          refine ev_ite (fun _ => ?_) (fun z => by omega)
          simp only [if_pos c3]
          refine ev_gc (r_keeps (d := d - 1) (K := 43) (by omega) rfl (by decide) h8 c3.2 (lk_fr (l7 c3.1) f8 (fun j _ _ => by omega) (by omega)) (wk.2.1 c3.1)) (fun y S9 q9 => ?_)
          exact ev_ret ⟨q9.1, by rw [q9.2.1]; exact t8, q9.2.2⟩
        · refine ev_gg (by decide) ?_
          refine ev_ite (fun z => by omega) (fun _ => ?_)
          simp only [if_neg c3]
          exact ev_ret ⟨t8, h8⟩
      rw [x7]
      by_cases c3 : pOK (vrW (atD' Ds a) z)
      · rw [if_pos c3]
        refine ev_gg (by decide) ?_
        refine ev_ite (fun z => by omega) (fun _ => ?_)
        refine ev_gv ?_
        rw [h7.1.1]
        refine ev_gg (by first | omega | (constructor <;> omega)) ?_
        refine ev_ite (fun y => ?_) (fun y => ?_)
        · exact p88 0 (by rw [if_neg (fun w => by omega)])
        · exact p88 1 (by rw [if_pos ⟨c3, by omega⟩])
      · rw [if_neg c3]
        refine ev_gg (by decide) ?_
        refine ev_ite (fun _ => ?_) (fun z => by omega)
        exact p88 0 (by rw [if_neg (fun w => c3 w.1)])
    · refine ev_gg (by decide) ?_
      refine ev_ite (fun z => by omega) (fun _ => ?_)
      simp only [if_neg (show ¬ (0 ≤ z ∧ z < 65536) by omega)]
      exact ev_ret ⟨t2, h2⟩
  · refine ev_gg (by decide) ?_
    refine ev_ite (fun _ => ?_) (fun y => absurd (by decide) y)
    simp only [if_neg c]
    exact ev_ret ⟨t1, h1⟩
end RGW
