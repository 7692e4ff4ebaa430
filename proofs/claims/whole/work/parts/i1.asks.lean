/-! THE CLASS's calls that only ask -/
section ASK1
variable {S S1 : GS} {T0 : List ND} {Ds : List (List ND)} {pg pp : List Int} {r : Int} {L : List Nat} {Q : List (List Int)} {C : List (Int × Int)} {d : Nat}
abbrev hasD (Ds : List (List ND)) (a : Int) : Prop := 0 ≤ a ∧ a < (Ds.length : Int)
abbrev atD' (Ds : List (List ND)) (a : Int) : List ND := Ds.getD a.toNat []
theorem ex_e : exB = 18446744073709551616 := rfl
theorem c_docWith {a i : Int} (h : ClS T0 Ds pg pp r L Q C S) (hd : 3 ≤ d) (ha : inr a) (hi : inr i) : Rd (fun m => f_X11_documentWith m d 0 S [a, i]) (if hasD Ds a ∧ 0 ≤ i ∧ i < ((atD' Ds a).length : Int) then ((8 * a.toNat : Nat) : Int) else exB + 3) S := by
  have ex := ex_e
  have n4 := h.1.2.1
  refine ev_up (fun n => e_X11_documentWith_0) ?_
  unfold b_X11_documentWith_0
  refine ev_gg (by omega) ?_
  refine ev_gcr (cl_doc (d := d - 1) h ha) ?_
  by_cases c : hasD Ds a
  · have at_ := cl_at h c
    rw [if_pos c]
    refine ev_ite (fun _ => ?_) (fun z => by omega)
    rw [Int.toNat_natCast]
    refine ev_gg at_.1.1 ?_
    refine ev_gcr (t_has (V := atD' Ds a) (d := d - 1) (i := i) at_.1.1 at_.2.1.1 hi) ?_
    by_cases c2 : 0 ≤ i ∧ i < ((atD' Ds a).length : Int)
    · have c12 : hasD Ds a ∧ 0 ≤ i ∧ i < ((atD' Ds a).length : Int) := ⟨c, c2⟩
      rw [if_pos c2, if_pos c12]
      refine ev_gg (by decide) ?_
      refine ev_ite (fun _ => ?_) (fun z => absurd (by decide) z)
      refine ev_gg (by omega) ?_
      exact ev_ret ⟨rfl, rfl⟩
    · have c12 : ¬ (hasD Ds a ∧ 0 ≤ i ∧ i < ((atD' Ds a).length : Int)) := fun z => c2 z.2
      rw [if_neg c2, if_neg c12]
      refine ev_gg (by decide) ?_
      refine ev_ite (fun z => absurd rfl z) (fun _ => ?_)
      exact ev_ret ⟨rfl, rfl⟩
  · rw [if_neg c, if_neg (fun z => c z.1)]
    refine ev_ite (fun z => by omega) (fun _ => ?_)
    exact ev_ret ⟨rfl, rfl⟩
theorem c_equal {a b : Int} (h : ClS T0 Ds pg pp r L Q C S) (hd : 40 ≤ d) (ha : inr a) (hb : inr b) : Rd (fun m => f_X11_equal m d 0 S [a, b]) (if hasD Ds a ∧ hasD Ds b then (if smJ 13 (atD' Ds a) 0 (atD' Ds b) 0 = true then 1 else 0) else exB + 3) S := by
  have ex := ex_e
  have n4 := h.1.2.1
  refine ev_up (fun n => e_X11_equal_0) ?_
  unfold b_X11_equal_0
  refine ev_gg (by omega) ?_
  refine ev_gcr (cl_doc (d := d - 1) h ha) ?_
  by_cases c : hasD Ds a
  · have at_ := cl_at h c
    rw [if_pos c]
    refine ev_ite (fun _ => ?_) (fun z => by omega)
    refine ev_gcr (cl_doc (d := d - 1) h hb) ?_
    by_cases c2 : hasD Ds b
    · have bt := cl_at h c2
      rw [if_pos c2, if_pos ⟨c, c2⟩]
      refine ev_ite (fun _ => ?_) (fun z => by omega)
      rw [Int.toNat_natCast, Int.toNat_natCast]
      refine ev_gg at_.1.1 ?_
      have sm := t_same (S := S) (V := atD' Ds a) (U := atD' Ds b) at_.1.1 bt.1.1 at_.2.1.1 bt.2.1.1 at_.2.2.1.1.1.1 bt.2.2.1.1.1.1 13 0 (d - 1) 0 (Nat.le_refl _) at_.2.2.1.1.1.2.1 (by decide) (by omega)
      rw [show (13 : Int) - ((13 : Nat) : Int) = 0 by decide] at sm
      refine ev_gcr sm ?_
      cases smJ 13 (atD' Ds a) 0 (atD' Ds b) 0 with
      | true =>
        refine ev_gg (by decide) ?_
        refine ev_gg (by decide) ?_
        exact ev_ret ⟨rfl, rfl⟩
      | false =>
        refine ev_gg (by decide) ?_
        refine ev_gg (by decide) ?_
        exact ev_ret ⟨rfl, rfl⟩
    · rw [if_neg c2, if_neg (fun z => c2 z.2)]
      refine ev_ite (fun z => by omega) (fun _ => ?_)
      exact ev_ret ⟨rfl, rfl⟩
  · rw [if_neg c, if_neg (fun z => c z.1)]
    refine ev_ite (fun z => by omega) (fun _ => ?_)
    exact ev_ret ⟨rfl, rfl⟩
theorem c_compare {a b : Int} (h : ClS T0 Ds pg pp r L Q C S) (hd : 10 ≤ d) (ha : inr a) (hb : inr b) : Rd (fun m => f_X11_compare m d 0 S [a, b]) (if hasD Ds a ∧ hasD Ds b then (if kdI (atD' Ds a) 0 = 2 ∧ kdI (atD' Ds b) 0 = 2 then onI (atD' Ds a) 0 (atD' Ds b) 0 else exB + 2) else exB + 3) S := by
  have ex := ex_e
  have n4 := h.1.2.1
  refine ev_up (fun n => e_X11_compare_0) ?_
  unfold b_X11_compare_0
  refine ev_gg (by omega) ?_
  refine ev_gcr (cl_doc (d := d - 1) h ha) ?_
  by_cases c : hasD Ds a
  · have at_ := cl_at h c
    rw [if_pos c]
    refine ev_ite (fun _ => ?_) (fun z => by omega)
    refine ev_gcr (cl_doc (d := d - 1) h hb) ?_
    by_cases c2 : hasD Ds b
    · have bt := cl_at h c2
      rw [if_pos c2, if_pos ⟨c, c2⟩]
      refine ev_ite (fun _ => ?_) (fun z => by omega)
      rw [Int.toNat_natCast, Int.toNat_natCast]
      refine ev_gg at_.1.1 ?_
      refine ev_gcr (rd_as (t_is (S := S) (V := atD' Ds a) (d := d - 1) (i := 0) (k := 2) at_.1.1 at_.2.1.1 (by decide) (by decide)) (is_kd (by decide))) ?_
      by_cases k1 : kdI (atD' Ds a) 0 = 2
      · rw [if_pos k1]
        refine ev_gg (by decide) ?_
        refine ev_ite (fun z => absurd z (by decide)) (fun _ => ?_)
        refine ev_gg bt.1.1 ?_
        refine ev_gcr (rd_as (t_is (S := S) (V := atD' Ds b) (d := d - 1) (i := 0) (k := 2) bt.1.1 bt.2.1.1 (by decide) (by decide)) (is_kd (by decide))) ?_
        by_cases k2 : kdI (atD' Ds b) 0 = 2
        · rw [if_pos k2, if_pos ⟨k1, k2⟩]
          refine ev_gg (by decide) ?_
          refine ev_ite (fun _ => ?_) (fun z => absurd (by decide) z)
          refine ev_gcr (t_orderOfNumbers (S := S) (V := atD' Ds a) (U := atD' Ds b) (d := d - 1) (i := 0) (j := 0) at_.1.1 bt.1.1 at_.2.1.1 bt.2.1.1 (by omega) (by decide) (by decide)) ?_
          have o := onI_r (atD' Ds a) 0 (atD' Ds b) 0
          refine ev_gg (by rcases o with z | z | z <;> omega) ?_
          exact ev_ret ⟨rfl, rfl⟩
        · rw [if_neg k2, if_neg (fun z => k2 z.2)]
          refine ev_gg (by decide) ?_
          refine ev_ite (fun z => absurd rfl z) (fun _ => ?_)
          exact ev_ret ⟨rfl, rfl⟩
      · rw [if_neg k1, if_neg (fun z => k1 z.1)]
        refine ev_gg (by decide) ?_
        refine ev_ite (fun _ => ?_) (fun z => absurd rfl z)
        exact ev_ret ⟨rfl, rfl⟩
    · rw [if_neg c2, if_neg (fun z => c2 z.2)]
      refine ev_ite (fun z => by omega) (fun _ => ?_)
      exact ev_ret ⟨rfl, rfl⟩
  · rw [if_neg c, if_neg (fun z => c z.1)]
    refine ev_ite (fun z => by omega) (fun _ => ?_)
    exact ev_ret ⟨rfl, rfl⟩
theorem c_complaint {k w : Int} (h : ClS T0 Ds pg pp r L Q C S) (hd : 3 ≤ d) (hk : inr k) (hw : inr w) : Rd (fun m => f_X11_complaint m d 0 S [k, w]) (if 0 ≤ k ∧ k < (C.length : Int) then (if w = 0 then (prA C k.toNat).1 else if w = 1 then (prA C k.toNat).2 else exB + 1) else exB + 3) S := by
  have ex := ex_e
  have hC := h.2.2.2.2.2.2.1
  have lc := hC.2.1
  have g := h.2.2.2.2.2.2.2.2
  refine ev_up (fun n => e_X11_complaint_0) ?_
  unfold b_X11_complaint_0
  refine ev_gg hk ?_
  refine ev_ite (fun z => ?_) (fun z => ?_)
  · rw [if_neg (by omega)]
    exact ev_ret ⟨rfl, rfl⟩
  refine ev_gg (by omega) ?_
  refine ev_gcr (ck_count (d := d - 1) hC) ?_
  refine ev_gg (by constructor <;> omega) ?_
  refine ev_ite (fun z2 => ?_) (fun z2 => ?_)
  · obtain ⟨k, rfl⟩ : ∃ j : Nat, k = (j : Int) := ⟨k.toNat, by omega⟩
    have kl : k < C.length := by omega
    have e := hC.2.2 k kl
    have i1 := g.1 492 k (by decide)
    have i2 := g.1 493 k (by decide)
    rw [e.1] at i1
    rw [e.2] at i2
    rw [if_pos (by omega), Int.toNat_natCast]
    refine ev_gg hw ?_
    refine ev_ite (fun y => ?_) (fun y => ?_)
    · rw [if_neg (by omega), if_neg (by omega)]
      exact ev_ret ⟨rfl, rfl⟩
    refine ev_ite (fun y2 => ?_) (fun y2 => ?_)
    · refine ev_ite (fun y3 => ?_) (fun y3 => ?_)
      · rw [if_neg y3, if_pos (by omega)]
        refine ev_gcr (ck_wordAt (d := d - 1) hC kl) ?_
        refine ev_gg (by have := i2.2; omega) ?_
        exact ev_ret ⟨rfl, rfl⟩
      · rw [if_pos (by omega)]
        refine ev_gcr (ck_nodeAt (d := d - 1) hC kl) ?_
        refine ev_gg (by have := i1.2; omega) ?_
        exact ev_ret ⟨rfl, rfl⟩
    · rw [if_neg (by omega), if_neg (by omega)]
      exact ev_ret ⟨rfl, rfl⟩
  · rw [if_neg (by omega)]
    exact ev_ret ⟨rfl, rfl⟩
/-- the PATH of a QUARREL, on the paper -/
theorem c_quarrel {k : Int} (h : ClS T0 Ds pg pp r L Q C S) (hd : 4 ≤ d) (hk : inr k) : Ev (fun m => f_X11_quarrel m d 0 S [k]) (fun x S1 => if 0 ≤ k ∧ k < (Q.length : Int) then x = ((Q.getD k.toNat []).length : Int) ∧ ClS T0 Ds pg (Q.getD k.toNat []) r L Q C S1 else x = exB + 3 ∧ S1 = S) := by
  have ex := ex_e
  have hQ := h.2.2.2.2.2.1
  have lq := hQ.2.2.2.1
  have g26 : gSh 426 := by decide
  refine ev_up (fun n => e_X11_quarrel_0) ?_
  unfold b_X11_quarrel_0
  refine ev_gg hk ?_
  refine ev_ite (fun z => ?_) (fun z => ?_)
  · refine ev_ret ?_
    rw [if_neg (by omega)]
    exact ⟨rfl, rfl⟩
  refine ev_gg (by omega) ?_
  refine ev_gcr (jn_count (d := d - 1) hQ) ?_
  refine ev_gg (by constructor <;> omega) ?_
  refine ev_ite (fun z2 => ?_) (fun z2 => ?_)
  · obtain ⟨k, rfl⟩ : ∃ j : Nat, k = (j : Int) := ⟨k.toNat, by omega⟩
    have kl : k < Q.length := by omega
    have ql : (Q.getD k []).length ≤ 300 := by
      refine (hQ.2.2.2.2 _ ?_).1
      rw [List.getD_eq_getElem?_getD, List.getElem?_eq_getElem kl]
      exact List.getElem_mem _
    rw [Int.toNat_natCast]
    simp only [if_pos (show 0 ≤ (k : Int) ∧ (k : Int) < (Q.length : Int) by omega)]
    refine ev_gc (sx_clear (d := d - 1) g26 h.2.2.2.2.2.2.2.2) (fun _ S1 q1 => ?_)
    have hQ1 : QuS Q S1 := qu_fr hQ q1.2.1 (by unfold shM; omega) (by unfold shM; omega) (by unfold shM; omega) (by unfold shM; omega)
    refine ev_gc (jn_pathTo (d := d - 1) (c := 426) g26 (by decide) (by omega) hQ1 kl (sx_rf q1.2.2 q1.1) (by show 0 + _ ≤ 36000; omega)) (fun _ S2 q2 => ?_)
    rw [List.nil_append] at q2
    refine ev_gcr (s9_length g26 q2.1) ?_
    refine ev_gg (by omega) ?_
    refine ev_ret ⟨rfl, ?_⟩
    have hf : Fr (shM 426) S S2 := fr_tr q1.2.1 q2.2.1
    obtain ⟨⟨n1, n2, n3⟩, ⟨p1, p2⟩, -, ⟨r1, r2⟩, f1, u1, c1, t1, -⟩ := h
    have nM : ∀ j, j ≠ 426 → j ≠ 427 → ¬ shM 426 j := fun j h1 h2 z => by unfold shM at z; omega
    have n468 := hf 468 (nM _ (by decide) (by decide))
    have n487 := hf 487 (nM _ (by decide) (by decide))
    exact ⟨⟨by rw [n468.1]; exact n1, n2, fun i hi => ⟨to_fr (n3 i hi).1 hf (fun k a b => nM _ (by omega) (by omega)), (n3 i hi).2⟩⟩, ⟨sv_fr p1 hf (nM _ (by decide) (by decide)) (nM _ (by decide) (by decide)), p2⟩, q2.1, ⟨by rw [n468.1]; exact r1, r2⟩, fsl_fr f1 hf (nM _ (by decide) (by decide)) (nM _ (by decide) (by decide)) (nM _ (by decide) (by decide)), qu_fr u1 hf (nM _ (by decide) (by decide)) (nM _ (by decide) (by decide)) (nM _ (by decide) (by decide)) (nM _ (by decide) (by decide)), cp_fr c1 hf (by rw [n487.1]) (nM _ (by decide) (by decide)) (nM _ (by decide) (by decide)), to_fr t1 hf (fun k a b => nM _ (by omega) (by omega)), q2.2.2⟩
  · refine ev_ret ?_
    rw [if_neg (by omega)]
    exact ⟨rfl, rfl⟩
end ASK1
