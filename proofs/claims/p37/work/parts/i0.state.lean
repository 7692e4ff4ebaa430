/-! THE CLASS's state, of an object: DOCUMENTS, page, paper, rule, what was found, QUARRELS, COMPLAINTS -/
/-- what no answer rests on -/
abbrev wkM : Nat → Prop := fun k => (320 ≤ k ∧ k < 328) ∨ (336 ≤ k ∧ k < 424) ∨ (428 ≤ k ∧ k < 458) ∨ (460 ≤ k ∧ k < 468) ∨ (469 ≤ k ∧ k ≤ 472) ∨ k = 475 ∨ (477 ≤ k ∧ k ≤ 484) ∨ (488 ≤ k ∧ k ≤ 491) ∨ k = 494
def ClS (T0 : List ND) (Ds : List (List ND)) (pg pp : List Int) (r : Int) (L : List Nat) (Q : List (List Int)) (C : List (Int × Int)) (S : GS) : Prop := (S.1 468 14 = (Ds.length : Int) ∧ Ds.length ≤ 40 ∧ ∀ i, i < Ds.length → TO (8 * i) (Ds.getD i [], false) S ∧ DOC (Ds.getD i [])) ∧ (SV S 424 pg ∧ pg.length ≤ 400) ∧ SV S 426 pp ∧ (S.1 468 15 = r ∧ 0 ≤ r ∧ r ≤ 2) ∧ (FsL L S ∧ FdL 100 L) ∧ QuS Q S ∧ CpS C S ∧ TO 328 (T0, false) S ∧ Good S
section CLS
variable {S S1 : GS} {T0 : List ND} {Ds : List (List ND)} {pg pp : List Int} {r : Int} {L : List Nat} {Q : List (List Int)} {C : List (Int × Int)} {d : Nat}
theorem fsl_fr {M : Nat → Prop} (h : FsL L S ∧ FdL 100 L) (hf : Fr M S S1) (h1 : ¬ M 473) (h2 : ¬ M 474) (h3 : ¬ M 476) : FsL L S1 ∧ FdL 100 L := ⟨⟨by rw [(hf _ h1).1]; exact h.1.1, fun k hk => by rw [(hf _ h2).1]; exact h.1.2.1 k hk, fun i hi => by rw [(hf _ h3).2.1]; exact h.1.2.2 i hi⟩, h.2⟩
theorem cp_fr {M : Nat → Prop} (h : CpS C S) (hf : Fr M S S1) (h1 : S1.1 487 11 = S.1 487 11) (h2 : ¬ M 492) (h3 : ¬ M 493) : CpS C S1 := ⟨by rw [h1]; exact h.1, h.2.1, fun k hk => by rw [(hf _ h2).1, (hf _ h3).1]; exact h.2.2 k hk⟩
/-- only what no answer rests on changes -/
theorem cl_fr {M : Nat → Prop} (h : ClS T0 Ds pg pp r L Q C S) (hf : Fr M S S1) (hM : ∀ k, M k → wkM k) (hG : Good S1) : ClS T0 Ds pg pp r L Q C S1 := by
  obtain ⟨⟨n1, n2, n3⟩, ⟨p1, p2⟩, q1, ⟨r1, r2⟩, f1, u1, c1, t1, g⟩ := h
  have no : ∀ k, ¬ wkM k → ¬ M k := fun k hk z => hk (hM k z)
  have n468 := hf 468 (no _ (by unfold wkM; omega))
  have n487 := hf 487 (no _ (by unfold wkM; omega))
  refine ⟨⟨by rw [n468.1]; exact n1, n2, fun i hi => ⟨to_fr (n3 i hi).1 hf (fun k a b => no _ (by unfold wkM; omega)), (n3 i hi).2⟩⟩, ⟨sv_fr p1 hf (no _ (by unfold wkM; omega)) (no _ (by unfold wkM; omega)), p2⟩, sv_fr q1 hf (no _ (by unfold wkM; omega)) (no _ (by unfold wkM; omega)), ⟨by rw [n468.1]; exact r1, r2⟩, fsl_fr f1 hf (no _ (by unfold wkM; omega)) (no _ (by unfold wkM; omega)) (no _ (by unfold wkM; omega)), qu_fr u1 hf (no _ (by unfold wkM; omega)) (no _ (by unfold wkM; omega)) (no _ (by unfold wkM; omega)) (no _ (by unfold wkM; omega)), cp_fr c1 hf (by rw [n487.1]) (no _ (by unfold wkM; omega)) (no _ (by unfold wkM; omega)), to_fr t1 hf (fun k a b => no _ (by unfold wkM; omega)), hG⟩
/-- a DOCUMENT comes -/
theorem cl_admit {c : Nat} {W : TW} (hc : gT c) (hc2 : 320 ≤ c) (hd : 18 ≤ d) (h : ClS T0 Ds pg pp r L Q C S) (hW : TO c W S) (hw : W.2 = false → nz W.1 0 = W.1.length → WF W.1) (hD : dOK W → DOC (kyT W.1 [])) : Ev (fun m => f_X11_admit m d 0 S [((c : Nat) : Int)]) (fun x S1 => (Ds.length < 40 ∧ dOK W ∧ x = (Ds.length : Int) ∧ ClS T0 (Ds ++ [kyT W.1 []]) pg pp r L Q C S1) ∨ (¬ (Ds.length < 40 ∧ dOK W) ∧ x = exB + 2 ∧ S1 = S)) := by
  obtain ⟨⟨n1, n2, n3⟩, ⟨p1, p2⟩, q1, ⟨r1, r2⟩, f1, u1, c1, t1, g⟩ := h
  refine ev_mono (t_admit (d := d) hc hc2 hd hW hw g n1 n2) (fun x S1 q => ?_)
  rcases q with ⟨a1, a2, a3, a4, a5, a6, a7, a8⟩ | q
  · left
    have nM : ∀ k, ¬ (8 * Ds.length ≤ k ∧ k < 8 * Ds.length + 8) → k ≠ 468 → ¬ adM Ds.length k := fun k h1 h2 z => by
      rcases z with z | z
      · exact h1 z
      · exact h2 z
    have hf := a7
    have n487 := hf 487 (nM _ (by omega) (by decide))
    refine ⟨a1, a2, a3, ⟨by rw [a5, List.length_append]; rfl, by rw [List.length_append, List.length_singleton]; omega, fun i hi => ?_⟩, ⟨sv_fr p1 hf (nM _ (by omega) (by decide)) (nM _ (by omega) (by decide)), p2⟩, sv_fr q1 hf (nM _ (by omega) (by decide)) (nM _ (by omega) (by decide)), ⟨by rw [a6 15 (by decide)]; exact r1, r2⟩, fsl_fr f1 hf (nM _ (by omega) (by decide)) (nM _ (by omega) (by decide)) (nM _ (by omega) (by decide)), qu_fr u1 hf (nM _ (by omega) (by decide)) (nM _ (by omega) (by decide)) (nM _ (by omega) (by decide)) (nM _ (by omega) (by decide)), cp_fr c1 hf (by rw [n487.1]) (nM _ (by omega) (by decide)) (nM _ (by omega) (by decide)), to_fr t1 hf (fun k a b => nM _ (by omega) (by omega)), a8⟩
    rw [List.length_append, List.length_singleton] at hi
    by_cases e : i < Ds.length
    · have eg : (Ds ++ [kyT W.1 []]).getD i [] = Ds.getD i [] := by
        rw [List.getD_eq_getElem?_getD, List.getD_eq_getElem?_getD, List.getElem?_append_left e]
      rw [eg]
      exact ⟨to_fr (n3 i e).1 hf (fun k a b => nM _ (by omega) (by omega)), (n3 i e).2⟩
    · have ei : i = Ds.length := by omega
      subst ei
      have eg : (Ds ++ [kyT W.1 []]).getD Ds.length [] = kyT W.1 [] := by simp
      rw [eg]
      exact ⟨a4, hD a2⟩
  · exact Or.inr q
theorem cl_doc {a : Int} (h : ClS T0 Ds pg pp r L Q C S) (ha : inr a) : Rd (fun m => f_X11_document m d 0 S [a]) (if 0 ≤ a ∧ a < (Ds.length : Int) then ((8 * a.toNat : Nat) : Int) else exB + 3) S := t_document h.1.1 h.1.2.1 ha
/-- of a DOCUMENT that is there -/
theorem cl_at {a : Int} (h : ClS T0 Ds pg pp r L Q C S) (ha : 0 ≤ a ∧ a < (Ds.length : Int)) : (gT (8 * a.toNat) ∧ 8 * a.toNat < 320) ∧ TO (8 * a.toNat) (Ds.getD a.toNat [], false) S ∧ DOC (Ds.getD a.toNat []) := by
  have n := h.1.2.1
  exact ⟨⟨by omega, by omega⟩, h.1.2.2 a.toNat (by omega)⟩
theorem t_quarrels (hd : 1 ≤ d) (h : ClS T0 Ds pg pp r L Q C S) : Rd (fun n => f_X11_quarrels n d 0 S []) (Q.length : Int) S := by
  refine ev_up (fun n => e_X11_quarrels_0) ?_
  unfold b_X11_quarrels_0
  refine ev_gg (by omega) ?_
  refine ev_gcr (jn_count (d := d - 1) h.2.2.2.2.2.1) ?_
  exact ev_ret ⟨rfl, rfl⟩
end CLS
