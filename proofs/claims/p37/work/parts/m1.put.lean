/-! THE REFERENCE's both, put, cut -/
theorem upd_dp {h : List ND → List ND} : ∀ (f : Nat) (T : List ND) (o : Nat) (b : Int), T.length ≤ f → TR T ∧ PZL T → o < T.length → TR (h (sg T o)) ∧ PZL (h (sg T o)) → (∀ b' : Int, (∀ g, dpS g (sg T o) ≤ b') → ∀ g, dpS g (h (sg T o)) ≤ b') → (∀ g, dpS g T ≤ b) → ∀ g, dpS g (updF h f T o) ≤ b
  | 0, T, o, b, hl, ht, ho, _, _, _ => by have := ht.1.2.1; omega
  | f + 1, T, 0, b, hl, ht, ho, hp, hh, hd => by
    rw [sg_self ht.1] at hh
    rw [updF_0]
    exact hh b hd
  | f + 1, T, i + 1, b, hl, ht, ho, hp, hh, hd => by
    obtain ⟨A, c, B, e1, e2, e3, e4, e5, e6, e7⟩ := upd_step (h := h) (f := f) ht ho
    have mc : c ∈ kd T := by rw [e1]; exact List.mem_append_right _ List.mem_cons_self
    have hc := kd_tr ht.1 ht.2 c mc
    have lc := mem_len mc
    have lk := len_kd ht
    rw [e4] at hp hh
    rw [e5]
    have b1 : 1 ≤ b := by
      have := hd 0
      unfold dpS at this
      rw [if_pos e7] at this
      exact this
    obtain ⟨b', rfl⟩ : ∃ b', b = b' + 1 := ⟨b - 1, by omega⟩
    have erq : ∀ t, t ∈ A ++ updF h f c (i - A.flatten.length) :: B → t ∈ A ++ c :: B ∨ t = updF h f c (i - A.flatten.length) := fun t hh => by
      rcases List.mem_append.mp hh with w | w
      · exact Or.inl (List.mem_append_left _ w)
      · rcases List.mem_cons.mp w with w | w
        · exact Or.inr w
        · exact Or.inl (List.mem_append_right _ (List.mem_cons_of_mem _ w))
    refine dp_gp (by omega) (fun t ht2 => ?_) (fun t ht2 => ?_)
    · rcases erq t ht2 with w | w
      · exact kd_tr ht.1 ht.2 t (by rw [e1]; exact w)
      · rw [w]
        exact (upd_tr f c _ (by omega) hc (by omega) hp).1
    · rcases erq t ht2 with w | w
      · exact dp_kd hd e7 (by rw [e1]; exact w)
      · rw [w]
        exact upd_dp f c _ b' (by omega) hc (by omega) hp hh (dp_kd hd e7 mc)
theorem cut_doc {V : List ND} {i : Nat} (h : DOC V) (h1 : 1 ≤ i) (hi : i < V.length) : DOC (cutT V i) := by
  have cs := cut_sdc h.1 h.2.2.2 h.2.2.1 h1 hi
  refine ⟨cs.1, ?_, cs.2.2, cs.2.1⟩
  obtain ⟨o, p, e1, e2, e3, e4, e5, e6, e7, e8⟩ := cut_parts h.1.1 h1 hi
  have ho : o < V.length := by omega
  have hs := doc_sg h ho
  have r4 := rk4 h.1.1 ho
  have eu : cutT V i = updF (delT p) V.length V o := by
    unfold cutT
    rw [e1, e2, Int.toNat_natCast, Int.toNat_natCast]
  have sb : ∀ u ∈ (kd (sg V o)).take p ++ (kd (sg V o)).drop (p + 1), u ∈ kd (sg V o) := fun u hu => by
    rcases List.mem_append.mp hu with w | w
    · exact List.mem_of_mem_take w
    · exact List.mem_of_mem_drop w
  rw [eu]
  refine upd_dp V.length V o 12 (Nat.le_refl _) h.1.1 ho (del_sdc hs.1 (by rw [r4]; exact e5) hs.2.2).1 (fun b' hb => ?_) h.2.1
  have b1 : 1 ≤ b' := by
    have := hb 0
    unfold dpS at this
    rw [r4, if_pos e5] at this
    exact this
  obtain ⟨b2, rfl⟩ : ∃ b2, b' = b2 + 1 := ⟨b' - 1, by omega⟩
  unfold delT
  exact dp_gp (by omega) (fun t ht => kd_tr hs.1.1.1 hs.1.1.2 t (sb t ht)) (fun t ht => dp_kd hb (by rw [r4]; exact e5) (sb t ht))
theorem lyC_doc {l : List Int} {V T : List ND} (h : DOC V) (e : lyC l V = some T) : DOC T := by
  unfold lyC at e
  by_cases c : ldT l V (nW l) = -1 ∨ nW l = 0
  · rw [if_pos c] at e; cases e
  · rw [if_neg c] at e
    have no := ld_ok (l := l) h.1.1 (nW l)
    have pos := ldT_pos (l := l) h.1.1.1.1 (pz_l h.1.1.2) h.1.1.1.2.1 (by omega)
    cases e
    exact cut_doc h (by omega) (by rcases no with q | q <;> omega)
theorem lyP_doc {l : List Int} {V T t : List ND} (h : DOC V) (hl : rng l) (ht : SDC t) (e : lyP l V t = some T) : DOC T := by
  unfold lyP at e
  cases hz : aimS l V with
  | none => rw [hz] at e; cases e
  | some z =>
    rw [hz] at e
    dsimp only at e
    by_cases c : pOK (putT l V z t)
    · rw [if_pos c] at e
      cases e
      have := put_sdc h.1 h.2.2.2 hl ht hz c.1
      exact ⟨this.1, dp_all 13 _ 12 c.2 (by decide), c.1, this.2⟩
    · rw [if_neg c] at e; cases e
