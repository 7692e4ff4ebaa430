/-! THE CLASS's print, digest -/
section CPR
variable {S S1 : GS} {T0 : List ND} {Ds : List (List ND)} {pg pp : List Int} {r : Int} {L : List Nat} {Q : List (List Int)} {C : List (Int × Int)} {d : Nat}
/-- the paper changes -/
theorem cl_paper {p1 : List Int} (h : ClS T0 Ds pg pp r L Q C S) (hs : SX 426 S p1 S1) : ClS T0 Ds pg p1 r L Q C S1 := by
  have hf := hs.2.1
  obtain ⟨⟨n1, n2, n3⟩, ⟨p1, p2⟩, -, ⟨r1, r2⟩, f1, u1, c1, t1, -⟩ := h
  have nM : ∀ j, j ≠ 426 → j ≠ 427 → ¬ shM 426 j := fun j h1 h2 z => by unfold shM at z; omega
  have n468 := hf 468 (nM _ (by decide) (by decide))
  have n487 := hf 487 (nM _ (by decide) (by decide))
  exact ⟨⟨by rw [n468.1]; exact n1, n2, fun i hi => ⟨to_fr (n3 i hi).1 hf (fun k a b => nM _ (by omega) (by omega)), (n3 i hi).2⟩⟩, ⟨sv_fr p1 hf (nM _ (by decide) (by decide)) (nM _ (by decide) (by decide)), p2⟩, hs.1, ⟨by rw [n468.1]; exact r1, r2⟩, fsl_fr f1 hf (nM _ (by decide) (by decide)) (nM _ (by decide) (by decide)) (nM _ (by decide) (by decide)), qu_fr u1 hf (nM _ (by decide) (by decide)) (nM _ (by decide) (by decide)) (nM _ (by decide) (by decide)) (nM _ (by decide) (by decide)), cp_fr c1 hf (by rw [n487.1]) (nM _ (by decide) (by decide)) (nM _ (by decide) (by decide)), to_fr t1 hf (fun k a b => nM _ (by omega) (by omega)), hs.2.2⟩
theorem wr_36 {V : List ND} {i : Nat} {w : Int} (h : DOC V) (hi : i < V.length) : (wrF 12 w 0 (sg V i)).length + 4 ≤ 36000 := by
  have ds := doc_sg h hi
  have := wr_len 12 (sg V i) w 0 ds.1 ds.2.2 ds.2.1 (by decide)
  have := ds.2.2
  omega
theorem dgst_r2 : ∀ (l : List Int) (h : Int), 0 ≤ h ∧ h < 65521 → (∀ x ∈ l, 0 ≤ x ∧ x < 65536) → 0 ≤ dgst h l ∧ dgst h l < 65521
  | [], h, hh, _ => hh
  | y :: l, h, hh, hx => by
    have := hx y List.mem_cons_self
    exact dgst_r2 l _ (by constructor <;> omega) (fun z hz => hx z (List.mem_cons_of_mem _ hz))
theorem c_print {a w : Int} (h : ClS T0 Ds pg pp r L Q C S) (hd : 50 ≤ d) (ha : inr a) (hw : inr w) : Ev (fun m => f_X11_print m d 0 S [a, w]) (fun x S1 => if hasD Ds a then (if 0 ≤ w ∧ w ≤ 2 then x = ((wrF 12 w 0 (atD' Ds a)).length : Int) ∧ ClS T0 Ds pg (wrF 12 w 0 (atD' Ds a)) r L Q C S1 else x = exB + 1 ∧ S1 = S) else x = exB + 3 ∧ S1 = S) := by
  have ex := ex_e
  have n4 := h.1.2.1
  have g26 : gSh 426 := by decide
  refine ev_up (fun n => e_X11_print_0) ?_
  unfold b_X11_print_0
  refine ev_gg (by first | omega | (constructor <;> omega)) ?_
  refine ev_gcr (cl_doc (d := d - 1) h ha) ?_
  by_cases c : hasD Ds a
  · have at_ := cl_at h c
    simp only [if_pos c]
    refine ev_ite (fun _ => ?_) (fun z => by omega)
    refine ev_gg (hw) ?_
    refine ev_ite (fun z => ?_) (fun z => ?_)
    · simp only [if_neg (show ¬ (0 ≤ w ∧ w ≤ 2) by omega)]
      exact ev_ret ⟨rfl, rfl⟩
    refine ev_ite (fun z1 => ?_) (fun z1 => ?_)
    · simp only [if_pos (show 0 ≤ w ∧ w ≤ 2 by omega)]
      have dV : DOC (atD' Ds a) := at_.2.2
      have lv := dV.1.1.1.2.1
      have w36 := wr_36 (w := w) dV lv
      have s0 := sg_selT dV.1.1.1
      rw [Int.toNat_natCast]
      refine ev_gc (sx_clear (d := d - 1) g26 h.2.2.2.2.2.2.2.2) (fun _ S1 q1 => ?_)
      have hv1 : TV S1 (8 * a.toNat) (atD' Ds a) := tv_fr at_.2.1.1 q1.2.1 (fun k b1 b2 => by unfold shM; omega)
      have s8 := s8_value (c := 8 * a.toNat) (s := 426) (V := atD' Ds a) at_.1.1 g26 hv1 dV.1.1.1.1 (show 0 ≤ w ∧ w ≤ 2 by omega) 12 13 0 (d - 1) 0 S1 [] lv (by have := (doc_sg dV lv).2.1 13; omega) (by decide) (by decide) (by omega) (sx_rf q1.2.2 q1.1) (by show 0 + _ + 4 ≤ 36000; omega)
      rw [s0, List.nil_append] at s8
      refine ev_gc s8 (fun _ S2 q2 => ?_)
      refine ev_gcr (s9_length g26 q2.1) ?_
      rw [s0] at w36
      refine ev_gg (by omega) ?_
      refine ev_ret ⟨rfl, cl_paper h ⟨q2.1, fr_tr q1.2.1 q2.2.1, q2.2.2⟩⟩
    · simp only [if_neg (show ¬ (0 ≤ w ∧ w ≤ 2) by omega)]
      exact ev_ret ⟨rfl, rfl⟩
  · simp only [if_neg c]
    refine ev_ite (fun z => by omega) (fun _ => ?_)
    exact ev_ret ⟨rfl, rfl⟩
theorem c_digest {a i : Int} (h : ClS T0 Ds pg pp r L Q C S) (hd : 50 ≤ d) (ha : inr a) (hi : inr i) : Ev (fun m => f_X11_digest m d 0 S [a, i]) (fun x S1 => if hasD Ds a ∧ 0 ≤ i ∧ i < ((atD' Ds a).length : Int) then x = dgst 7 (wrF 12 1 0 (sg (atD' Ds a) i.toNat)) ∧ ClS T0 Ds pg pp r L Q C S1 else x = exB + 3 ∧ S1 = S) := by
  have ex := ex_e
  have n4 := h.1.2.1
  have g28 : gSh 428 := by decide
  refine ev_up (fun n => e_X11_digest_0) ?_
  unfold b_X11_digest_0
  refine ev_gg (by first | omega | (constructor <;> omega)) ?_
  refine ev_gcr (c_docWith (d := d - 1) h (by omega) ha hi) ?_
  by_cases c : hasD Ds a ∧ 0 ≤ i ∧ i < ((atD' Ds a).length : Int)
  · have at_ := cl_at h c.1
    simp only [if_pos c]
    refine ev_ite (fun _ => ?_) (fun z => by omega)
    have dV : DOC (atD' Ds a) := at_.2.2
    obtain ⟨i, rfl⟩ : ∃ k : Nat, i = (k : Int) := ⟨i.toNat, by omega⟩
    have il : i < (atD' Ds a).length := by omega
    have w36 := wr_36 (w := 1) dV il
    rw [Int.toNat_natCast, Int.toNat_natCast]
    refine ev_gc (sx_clear (d := d - 1) g28 h.2.2.2.2.2.2.2.2) (fun _ S1 q1 => ?_)
    have hv1 : TV S1 (8 * a.toNat) (atD' Ds a) := tv_fr at_.2.1.1 q1.2.1 (fun k b1 b2 => by unfold shM; omega)
    have s8 := s8_value (c := 8 * a.toNat) (s := 428) (V := atD' Ds a) at_.1.1 g28 hv1 dV.1.1.1.1 (show (0 : Int) ≤ 1 ∧ (1 : Int) ≤ 2 by decide) 12 13 i (d - 1) 0 S1 [] il (by have := (doc_sg dV il).2.1 13; omega) (by decide) (by decide) (by omega) (sx_rf q1.2.2 q1.1) (by show 0 + _ + 4 ≤ 36000; omega)
    rw [List.nil_append] at s8
    refine ev_gc s8 (fun _ S2 q2 => ?_)
    refine ev_gcr (s9_digestOf (d := d - 1) g28 (by omega) q2.1) ?_
    have dr := dgst_r2 (wrF 12 1 0 (sg (atD' Ds a) i)) 7 (by decide) q2.1.2.2.2
    refine ev_gg (by omega) ?_
    refine ev_ret ⟨rfl, cl_fr h (fr_tr q1.2.1 q2.2.1) (fun k z => by unfold shM at z; unfold wkM; omega) q2.2.2⟩
  · simp only [if_neg c]
    refine ev_ite (fun z => by omega) (fun _ => ?_)
    exact ev_ret ⟨rfl, rfl⟩
end CPR
