/-! Writings: how long; the reference's whole writing; on the paper -/
theorem koS_mem {w : Int} {T : List ND} : ∀ t ∈ koS w T, t ∈ kd T := by
  intro t ht
  unfold koS at ht
  split at ht
  · exact (obS_mem 100 none t ht).1
  · exact ht
theorem wsign_le6 (x : Int) : (wsign x).length ≤ 6 := by
  unfold wsign
  split
  · split <;> simp
  · simp
theorem wtx_len : ∀ (q : List Int), (wtx q).length ≤ 6 * q.length
  | [] => Nat.le_refl _
  | x :: q => by
    have a := wsign_le6 x
    have b := wtx_len q
    rw [wtx_cons, List.length_append, List.length_cons]
    omega
theorem wq_len (q : List Int) : (wq q).length ≤ 6 * q.length + 2 := by
  have := wtx_len q
  unfold wq
  simp only [List.length_append, List.length_cons, List.length_nil]
  omega
theorem wln_len (k : Nat) : (wln k).length = 2 * k + 1 := by
  unfold wln
  rw [List.length_append, List.length_replicate, List.length_singleton]
  omega
theorem sx_lens : (sx 12).length = 4 ∧ (sx 13).length = 4 ∧ (sx 14).length = 5 ∧ (sx 16).length = 2 ∧ (sx 17).length = 1 := by decide +kernel
theorem wsc_len {T : List ND} (h : (rt T).length ≤ 40) : (wsc T).length ≤ 242 := by
  obtain ⟨s1, s2, s3, _, _⟩ := sx_lens
  unfold wsc
  split
  · omega
  · split
    · split <;> omega
    · split
      · unfold wnb
        have := wnum_len (rp T)
        rw [List.length_append]
        split
        · simp; omega
        · rw [List.length_append, List.length_singleton]; omega
      · have := wq_len (rt T)
        omega
theorem wpr_len {b ln mp : Bool} {ind : Nat} {q : List Int} (hq : q.length ≤ 12) (hi : ind ≤ 12) : (wpr b ln mp ind q).length ≤ 104 := by
  obtain ⟨_, _, _, s4, s5⟩ := sx_lens
  have a := wq_len q
  have c := wln_len (ind + 1)
  unfold wpr
  rw [List.length_append, List.length_append]
  have x1 : (if b = true then [] else [44] : List Int).length ≤ 1 := by split <;> simp
  have x2 : (if ln = true then wln (ind + 1) else []).length ≤ 27 := by
    split
    · omega
    · simp
  have x3 : (if mp = true then wq q ++ (if ln = true then sx 16 else sx 17) else []).length ≤ 76 := by
    split
    · rw [List.length_append]
      split <;> omega
    · simp
  omega
theorem wbd_le {ln mp : Bool} {ind : Nat} {g : List ND → List Int} (hi : ind ≤ 12) : ∀ (b : Bool) (L : List (List ND)), (∀ t ∈ L, (rq t).length ≤ 12 ∧ (g t).length + 104 ≤ 346 * t.length) → (wbd ln mp ind g b L).length ≤ 346 * L.flatten.length
  | b, [], _ => by cases b <;> exact Nat.le_refl _
  | b, t :: L, h => by
    have a := h t List.mem_cons_self
    have c := wbd_le (ln := ln) (mp := mp) (g := g) hi false L (fun u hu => h u (List.mem_cons_of_mem _ hu))
    have e := wpr_len (b := b) (ln := ln) (mp := mp) a.1 hi
    show (wpr b ln mp ind (rq t) ++ g t ++ wbd ln mp ind g false L).length ≤ _
    rw [List.length_append, List.length_append, List.flatten_cons, List.length_append]
    omega
theorem root_nr {T : List ND} (h : SDC T) : NR (T.getD 0 nd0) ∧ VN (T.getD 0 nd0) := h.2.1 _ (root_mem h.1.1)
theorem rq_ok {T : List ND} (h : SDC T) : (rq T).length ≤ 12 ∧ rng (rq T) := by
  have := (root_nr h).1
  exact ⟨this.2.2.2.2.2.2.2.2.1, this.2.2.2.2.2.2.2.2.2⟩
theorem rt_ok {T : List ND} (h : SDC T) : (rt T).length ≤ 40 ∧ rng (rt T) := by
  have := (root_nr h).1
  exact ⟨this.2.2.2.2.2.2.1, this.2.2.2.2.2.2.2.1⟩
theorem len_kd {T : List ND} (h : TR T ∧ PZL T) : T.length = (kd T).flatten.length + 1 := by
  have e := congrArg List.length (kd_flat h.2 h.1.2.1)
  rw [List.length_cons] at e
  exact e
/-- how long a writing is -/
theorem wr_len : ∀ (f : Nat) (T : List ND) (w : Int) (ind : Nat), SDC T → T.length ≤ 100 → (∀ r, dpS r T ≤ (f : Int)) → ind + f ≤ 13 → (wrF f w ind T).length + 104 ≤ 346 * T.length
  | 0, T, w, ind, h, hl, hd, hi => by
    have := wsc_len (rt_ok h).1
    have l1 := h.1.1.2.1
    show (wsc T).length + 104 ≤ _
    omega
  | f + 1, T, w, ind, h, hl, hd, hi => by
    have l1 := h.1.1.2.1
    by_cases c : rk T < 4
    · rw [wr_leaf c]
      have := wsc_len (rt_ok h).1
      omega
    · have pm := koS_perm (w := w) h hl
      have fl := (List.Perm.flatten pm).length_eq
      have lk := len_kd h.1
      have b := wbd_le (ln := wli w T) (mp := decide (rk T = 5)) (ind := ind) (g := wrF f w (ind + 1)) (by omega) true (koS w T) (fun t ht => by
        have tk := koS_mem t ht
        have st := sdc_kd h tk
        have tl : t.length ≤ 100 := by have := mem_len tk; omega
        exact ⟨(rq_ok st).1, wr_len f t w (ind + 1) st tl (dp_kd hd (by omega) tk) (by omega)⟩)
      unfold wrF
      rw [if_neg c, List.length_append, List.length_append]
      have e : (wend (wli w T) (decide (rk T = 5)) ind).length ≤ 28 := by
        unfold wend
        rw [List.length_append, List.length_singleton]
        split
        · rw [wln_len]; omega
        · simp
      have e0 : ([if rk T = 5 then (123 : Int) else 91]).length = 1 := rfl
      omega
