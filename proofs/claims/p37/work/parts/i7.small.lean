/-! THE CLASS's rule, undo, wipe on its state -/
section SM2
variable {S S1 : GS} {T0 : List ND} {Ds : List (List ND)} {pg pp : List Int} {r : Int} {L : List Nat} {Q : List (List Int)} {C : List (Int × Int)} {d : Nat}
/-- the count of DOCUMENTS, or the rule, changes -/
theorem cl_468 {m : Nat} {r1 : Int} (h : ClS T0 Ds pg pp r L Q C S) (hf : Fr (fun k => k = 468) S S1) (hm : m ≤ Ds.length) (h1 : S1.1 468 14 = (m : Int)) (h2 : S1.1 468 15 = r1) (h3 : 0 ≤ r1 ∧ r1 ≤ 2) (hG : Good S1) : ClS T0 (Ds.take m) pg pp r1 L Q C S1 := by
  obtain ⟨⟨n1, n2, n3⟩, ⟨p1, p2⟩, q1, ⟨r1', r2⟩, f1, u1, c1, t1, g⟩ := h
  have n487 := hf 487 (by decide)
  have lt : (Ds.take m).length = m := by rw [List.length_take]; omega
  refine ⟨⟨by rw [lt]; exact h1, by omega, fun i hi => ?_⟩, ⟨sv_fr p1 hf (by decide) (by decide), p2⟩, sv_fr q1 hf (by decide) (by decide), ⟨h2, h3⟩, fsl_fr f1 hf (by decide) (by decide) (by decide), qu_fr u1 hf (by decide) (by decide) (by decide) (by decide), cp_fr c1 hf (by rw [n487.1]) (by decide) (by decide), to_fr t1 hf (fun k a b => by omega), hG⟩
  rw [lt] at hi
  have eg : (Ds.take m).getD i [] = Ds.getD i [] := by
    rw [List.getD_eq_getElem?_getD, List.getD_eq_getElem?_getD, List.getElem?_take, if_pos hi]
  rw [eg]
  exact ⟨to_fr (n3 i (by omega)).1 hf (fun k a b => by omega), (n3 i (by omega)).2⟩
theorem c_undo (h : ClS T0 Ds pg pp r L Q C S) : Ev (fun m => f_X11_undo m d 0 S []) (fun x S1 => if 1 ≤ Ds.length then x = (Ds.length : Int) - 1 ∧ ClS T0 (Ds.take (Ds.length - 1)) pg pp r L Q C S1 else x = exB + 2 ∧ S1 = S) := by
  have n2 := h.1.2.1
  refine ev_mono (t_undo (d := d) h.1.1 n2) (fun x S1 q => ?_)
  by_cases c : 1 ≤ Ds.length
  · rw [if_pos c] at q ⊢
    obtain ⟨rfl, rfl⟩ := q
    exact ⟨rfl, cl_468 (m := Ds.length - 1) (r1 := r) h (fr_gI rfl) (by omega) (by rw [gI_a]; omega) (by rw [gI_k (by decide)]; exact h.2.2.2.1.1) h.2.2.2.1.2 (good_gI h.2.2.2.2.2.2.2.2 (by constructor <;> omega) (fun q => by unfold isC at q; omega))⟩
  · rw [if_neg c] at q ⊢
    exact q
/-- the page changes -/
theorem cl_page {p1 : List Int} (h : ClS T0 Ds pg pp r L Q C S) (hs : SX 424 S p1 S1) (hl : p1.length ≤ 400) : ClS T0 Ds p1 pp r L Q C S1 := by
  have hf := hs.2.1
  obtain ⟨⟨n1, n2, n3⟩, -, q1, ⟨r1, r2⟩, f1, u1, c1, t1, -⟩ := h
  have nM : ∀ j, j ≠ 424 → j ≠ 425 → ¬ shM 424 j := fun j h1 h2 z => by unfold shM at z; omega
  have n468 := hf 468 (nM _ (by decide) (by decide))
  have n487 := hf 487 (nM _ (by decide) (by decide))
  exact ⟨⟨by rw [n468.1]; exact n1, n2, fun i hi => ⟨to_fr (n3 i hi).1 hf (fun k a b => nM _ (by omega) (by omega)), (n3 i hi).2⟩⟩, ⟨hs.1, hl⟩, sv_fr q1 hf (nM _ (by decide) (by decide)) (nM _ (by decide) (by decide)), ⟨by rw [n468.1]; exact r1, r2⟩, fsl_fr f1 hf (nM _ (by decide) (by decide)) (nM _ (by decide) (by decide)) (nM _ (by decide) (by decide)), qu_fr u1 hf (nM _ (by decide) (by decide)) (nM _ (by decide) (by decide)) (nM _ (by decide) (by decide)) (nM _ (by decide) (by decide)), cp_fr c1 hf (by rw [n487.1]) (nM _ (by decide) (by decide)) (nM _ (by decide) (by decide)), to_fr t1 hf (fun k a b => nM _ (by omega) (by omega)), hs.2.2⟩
theorem c_wipe (h : ClS T0 Ds pg pp r L Q C S) (hd : 1 ≤ d) : Ev (fun m => f_X11_wipe m d 0 S []) (fun x S1 => x = (pg.length : Int) ∧ ClS T0 Ds [] pp r L Q C S1) :=
  ev_mono (t_wipe hd (sx_rf h.2.2.2.2.2.2.2.2 h.2.1.1)) (fun x S1 q => ⟨q.1, cl_page h q.2 (by decide)⟩)
theorem c_write {a n : Int} (h : ClS T0 Ds pg pp r L Q C S) (hd : 3 ≤ d) (hn : inr n) : Ev (fun m => f_X11_write m d 0 S [n, a]) (fun x S1 => if 1 ≤ n ∧ n ≤ 8 ∧ asL n.toNat a = 1 then (if (pg.length : Int) + n ≤ 400 then x = (pg.length : Int) + n ∧ ClS T0 Ds (pg ++ wrD a n.toNat) pp r L Q C S1 else x = exB + 2 ∧ S1 = S) else x = exB + 1 ∧ S1 = S) := by
  refine ev_mono (t_write (a := a) hd hn (sx_rf h.2.2.2.2.2.2.2.2 h.2.1.1) h.2.1.2) (fun x S1 q => ?_)
  by_cases c : 1 ≤ n ∧ n ≤ 8 ∧ asL n.toNat a = 1
  · rw [if_pos c] at q ⊢
    by_cases c2 : (pg.length : Int) + n ≤ 400
    · rw [if_pos c2] at q ⊢
      refine ⟨q.1, cl_page h q.2 ?_⟩
      rw [List.length_append, wrD_len]
      omega
    · rw [if_neg c2] at q ⊢
      exact q
  · rw [if_neg c] at q ⊢
    exact q
end SM2
