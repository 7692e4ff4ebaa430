/-! DOCUMENTS: looked up, admitted -/
/-- a tree is a DOCUMENT -/
def dOK (W : TW) : Prop := W.2 = false ∧ 1 ≤ W.1.length ∧ nz W.1 0 = W.1.length ∧ dpF 13 W.1 0 ≤ 12
theorem ky_eq {T : List ND} {q : List Int} (h : 1 ≤ T.length) : T.set 0 (wQ (T.getD 0 nd0) q) = kyT T q := by
  cases T with
  | nil => simp at h
  | cons a b => rfl
theorem cpW_doc {V : List ND} (h1 : 1 ≤ V.length) (h2 : nz V 0 = V.length) (h3 : V.length ≤ 100) : cpW V false 0 = (kyT V [], false) := by
  have sz : szI V 0 = (V.length : Int) := by
    have := szI_nat (V := V) (i := 0) (by omega)
    rw [h2] at this
    exact this
  have es : seg V 0 V.length = V := by
    unfold seg
    rw [List.drop_zero, List.take_length]
  unfold cpW apW
  rw [sz, if_pos ⟨rfl, by omega, by show (0 : Int) + _ ≤ 100; omega⟩]
  simp only [Int.toNat_natCast, List.nil_append]
  rw [show (0 : Int).toNat = 0 from rfl, es]
  unfold cKy
  rw [if_pos ⟨Int.le_refl _, by show (0 : Int) < (V.length : Int); omega⟩]
  show (V.set 0 (wQ (V.getD 0 nd0) []), false) = _
  rw [ky_eq h1]
section ADM
variable {S : GS} {c d : Nat} {W : TW}
theorem t_document {n : Nat} {a : Int} (hn : S.1 468 14 = (n : Int)) (h40 : n ≤ 40) (ha : inr a) : Rd (fun m => f_X11_document m d 0 S [a]) (if 0 ≤ a ∧ a < n then ((8 * a.toNat : Nat) : Int) else exB + 3) S := by
  have ex : exB = 18446744073709551616 := rfl
  by_cases h : 0 ≤ a ∧ a < n
  · rw [if_pos h]
    refine ev_up (fun n => e_X11_document_0) ?_
    unfold b_X11_document_0
    repeat' (first
      | with_reducible refine ev_gv ?_
      | with_reducible refine ev_gg ?_ ?_
      | with_reducible refine ev_ite (fun _ => ?_) (fun _ => ?_)
      | omega
      | assumption)
    exact ev_ret ⟨rfl, rfl⟩
  · rw [if_neg h]
    refine ev_up (fun n => e_X11_document_0) ?_
    unfold b_X11_document_0
    repeat' (first
      | with_reducible refine ev_gv ?_
      | with_reducible refine ev_gg ?_ ?_
      | with_reducible refine ev_ite (fun _ => ?_) (fun _ => ?_)
      | omega
      | assumption)
    all_goals exact ev_ret ⟨rfl, rfl⟩
/-- the places that admitting works at -/
def adM (n : Nat) : Nat → Prop := fun k => trM (8 * n) k ∨ k = 468
theorem t_admit {n : Nat} (hc : gT c) (hc2 : 320 ≤ c) (hd : 18 ≤ d) (h : TO c W S) (hw : W.2 = false → nz W.1 0 = W.1.length → WF W.1) (hG : Good S) (hn : S.1 468 14 = (n : Int)) (h40 : n ≤ 40) : Ev (fun m => f_X11_admit m d 0 S [((c : Nat) : Int)]) (fun x S1 => (n < 40 ∧ dOK W ∧ x = (n : Int) ∧ TO (8 * n) (kyT W.1 [], false) S1 ∧ S1.1 468 14 = (n : Int) + 1 ∧ (∀ k, k ≠ 14 → S1.1 468 k = S.1 468 k) ∧ Fr (adM n) S S1 ∧ Good S1) ∨ (¬ (n < 40 ∧ dOK W) ∧ x = exB + 2 ∧ S1 = S)) := by
  have ex : exB = 18446744073709551616 := rfl
  have hl := tv_l h.1
  by_cases h4 : n < 40
  · have hgT : gT (8 * n) := ⟨by omega, by omega⟩
    have e8 : 8 * (S.1 468 14).toNat = 8 * n := by rw [hn, Int.toNat_natCast]
    by_cases hdoc : dOK W
    · have isd := rd_as (t_isDocument (d := d - 1) hc (by omega) h hw) (if_pos hdoc)
      have sz0 : szI W.1 0 = (nz W.1 0 : Int) := szI_nat (i := 0) (by have := hdoc.2.1; omega)
      have cp := ty_copyOf (d := d - 1) (S := S) (c := 8 * n) (c2 := c) (f := 0) hgT hc (by omega) (by omega) h.1 (h.2.trans hdoc.1) (by decide) (Or.inl (by rw [sz0]; have := hdoc.2.2.1; omega)) hG
      rw [cpW_doc hdoc.2.1 hdoc.2.2.1 hl] at cp
      refine ev_up (fun n => e_X11_admit_0) ?_
      unfold b_X11_admit_0
      repeat' (first
        | with_reducible refine ev_gv ?_
        | with_reducible refine ev_gg ?_ ?_
        | with_reducible refine ev_ite (fun _ => ?_) (fun _ => ?_)
        | refine ev_gcr (isd) ?_
        | omega
        | assumption)
      rw [e8]
      repeat' (first
        | with_reducible refine ev_gv ?_
        | with_reducible refine ev_gg ?_ ?_
        | with_reducible refine ev_ite (fun _ => ?_) (fun _ => ?_)
        | omega
        | assumption)
      refine ev_gc cp (fun _ S1 q1 => ?_)
      have e1 : S1.1 468 = S.1 468 := (q1.2.2.1 468 (by unfold trM; omega)).1
      rw [e1, hn]
      refine ev_gv ?_
      refine ev_gv ?_
      refine ev_gv ?_
      have e2 : (gI S1 468 14 ((n : Int) + 1)).1 468 14 = (n : Int) + 1 := gI_a
      rw [e2]
      repeat' (first
        | with_reducible refine ev_gv ?_
        | with_reducible refine ev_gg ?_ ?_
        | with_reducible refine ev_ite (fun _ => ?_) (fun _ => ?_)
        | omega
        | assumption)
      refine ev_ret (Or.inl ⟨h4, hdoc, by omega, ?_, e2, fun k hk => by rw [gI_k hk, e1], ?_, ?_⟩)
      · exact to_fr (M := fun k => k = 468) (to_ty q1) (fr_gI rfl) (fun k a b => by omega)
      · exact fr_tr (fr_mono q1.2.2.1 (fun _ z => Or.inl z)) (fr_gI (Or.inr rfl))
      · exact good_gI q1.2.2.2 (by constructor <;> omega) (fun q => by unfold isC at q; omega)
    · have isd := rd_as (t_isDocument (d := d - 1) hc (by omega) h hw) (if_neg hdoc)
      refine ev_up (fun n => e_X11_admit_0) ?_
      unfold b_X11_admit_0
      repeat' (first
        | with_reducible refine ev_gv ?_
        | with_reducible refine ev_gg ?_ ?_
        | with_reducible refine ev_ite (fun _ => ?_) (fun _ => ?_)
        | refine ev_gcr (isd) ?_
        | omega
        | assumption)
      exact ev_ret (Or.inr ⟨fun q => hdoc q.2, rfl, rfl⟩)
  · refine ev_up (fun n => e_X11_admit_0) ?_
    unfold b_X11_admit_0
    repeat' (first
      | with_reducible refine ev_gv ?_
      | with_reducible refine ev_gg ?_ ?_
      | with_reducible refine ev_ite (fun _ => ?_) (fun _ => ?_)
      | omega
      | assumption)
    all_goals exact ev_ret (Or.inr ⟨fun q => h4 q.1, rfl, rfl⟩)
end ADM
