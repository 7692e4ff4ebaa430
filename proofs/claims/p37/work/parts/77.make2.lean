/-! TREES in the making: signs, KEYS, sizes -/
def wT (x : ND) (t : List Int) : ND := (x.1, x.2.1, x.2.2.1, t, x.2.2.2.2)
def wQ (x : ND) (q : List Int) : ND := (x.1, x.2.1, x.2.2.1, x.2.2.2.1, q)
def wP (x : ND) (p : Int) : ND := (x.1, x.2.1, p, x.2.2.2.1, x.2.2.2.2)
def wZ (x : ND) (z : Nat) : ND := (x.1, z, x.2.2.1, x.2.2.2.1, x.2.2.2.2)
section MK2
variable {S S0 : GS} {c d : Nat} {V : List ND} {o : Bool}
theorem sameN_gI {S : GS} {c j k c' : Nat} {x : Int} (h1 : ∀ m, 1 ≤ m → m ≤ 7 → m ≠ 5 → m ≠ 7 → c' = c + m → k ≠ j) (h5 : c' = c + 5 → ∀ t, t < 40 → 40 * j + t ≠ k) (h7 : c' = c + 7 → ∀ t, t < 12 → 12 * j + t ≠ k) : SameN S (gI S c' k x) c j := by
  have key : ∀ m, 1 ≤ m → m ≤ 7 → m ≠ 5 → m ≠ 7 → (gI S c' k x).1 (c + m) j = S.1 (c + m) j := by
    intro m a1 a2 a3 a4
    by_cases e : c' = c + m
    · subst e
      rw [gI_k (fun e => h1 m a1 a2 a3 a4 rfl e.symm)]
    · rw [gI_c (fun q => e q.symm)]
  refine ⟨key 1 (by omega) (by omega) (by omega) (by omega), key 2 (by omega) (by omega) (by omega) (by omega), key 3 (by omega) (by omega) (by omega) (by omega), key 4 (by omega) (by omega) (by omega) (by omega), fun t ht => ?_, key 6 (by omega) (by omega) (by omega) (by omega), fun t ht => ?_⟩
  · by_cases e : c' = c + 5
    · subst e; rw [gI_k (h5 rfl t ht)]
    · rw [gI_c (fun q => e q.symm)]
  · by_cases e : c' = c + 7
    · subst e; rw [gI_k (h7 rfl t ht)]
    · rw [gI_c (fun q => e q.symm)]
theorem sameN_tr {S S1 S2 : GS} {c j : Nat} (h : SameN S S1 c j) (g : SameN S1 S2 c j) : SameN S S2 c j :=
  ⟨g.1.trans h.1, g.2.1.trans h.2.1, g.2.2.1.trans h.2.2.1, g.2.2.2.1.trans h.2.2.2.1, fun t ht => (g.2.2.2.2.1 t ht).trans (h.2.2.2.2.1 t ht), g.2.2.2.2.2.1.trans h.2.2.2.2.2.1, fun t ht => (g.2.2.2.2.2.2 t ht).trans (h.2.2.2.2.2.2 t ht)⟩
theorem sameN_gI0 {S : GS} {c j k m : Nat} {x : Int} (hm : 1 ≤ m ∧ m ≤ 7 ∧ m ≠ 5 ∧ m ≠ 7) (h : k ≠ j) : SameN S (gI S (c + m) k x) c j :=
  sameN_gI (fun _ _ _ _ _ _ => h) (fun e => by omega) (fun e => by omega)
theorem nr_T {x : ND} {t : List Int} (h : NR x) (hl : t.length ≤ 40) (hr : ∀ y ∈ t, 0 ≤ y ∧ y < 256) : NR (wT x t) := by
  obtain ⟨r1, r2, r3, r4, r5, r6, r7, r7', r8, r9⟩ := h
  exact ⟨r1, r2, r3, r4, r5, r6, hl, hr, r8, r9⟩
theorem nr_Q {x : ND} {t : List Int} (h : NR x) (hl : t.length ≤ 12) (hr : ∀ y ∈ t, 0 ≤ y ∧ y < 256) : NR (wQ x t) := by
  obtain ⟨r1, r2, r3, r4, r5, r6, r7, r7', r8, r9⟩ := h
  exact ⟨r1, r2, r3, r4, r5, r6, r7, r7', hl, hr⟩
theorem nr_P {x : ND} {p : Int} (h : NR x) (hp : -200 ≤ p ∧ p ≤ 200) : NR (wP x p) := by
  obtain ⟨r1, r2, r3, r4, r5, r6, r7, r7', r8, r9⟩ := h
  exact ⟨r1, r2, r3, r4, hp.1, hp.2, r7, r7', r8, r9⟩
theorem nr_Z {x : ND} {z : Nat} (h : NR x) (hp : 1 ≤ z ∧ z ≤ 100) : NR (wZ x z) := by
  obtain ⟨r1, r2, r3, r4, r5, r6, r7, r7', r8, r9⟩ := h
  exact ⟨r1, r2, hp.1, hp.2, r5, r6, r7, r7', r8, r9⟩
/-- a POWER is set -/
theorem tx_power {i : Nat} {p : Int} (hc : gT c) (h : TX c S0 V o S) (hi : i < V.length) (hp : -200 ≤ p ∧ p ≤ 200) : TX c S0 (V.set i (wP (V.getD i nd0) p)) o (gI S (c + 3) i p) := by
  obtain ⟨hv, ho, hf, hG⟩ := h
  obtain ⟨n1, n2, n3, n4, n5, n6, n7⟩ := hv.2.2.1 i hi
  refine ⟨tv_upd hv hi ?_ (fun j hj hji => sameN_gI0 (by omega) (fun e => hji e.symm)) ?_ (nr_P (hv.2.2.2 _ (nd_mem hi)) hp), ho, fr_tr hf (fr_gI (trM0 (by decide))), good_gI hG (by constructor <;> omega) (fun q => absurd q (not_isC hc (by decide)))⟩
  · simp (disch := omega) only [gI_a, gI_k, gI_c, gI_b, gB_i, gB_a, gB_k, gB_c, gB_r, gR_i, gR_b, gR_a, gR_k, gR_c, gIs_a, gIs_c, gIs_b]
  · refine ⟨?_, ?_, ?_, ?_, fun t ht => ?_, ?_, fun t ht => ?_⟩ <;> simp (disch := omega) only [gI_a, gI_k, gI_c]
    · exact n1
    · exact n2
    · exact rfl
    · exact n4
    · exact n5 t ht
    · exact n6
    · exact n7 t ht
theorem tx_size {i : Nat} {z : Nat} (hc : gT c) (h : TX c S0 V o S) (hi : i < V.length) (hp : 1 ≤ z ∧ z ≤ 100) : TX c S0 (V.set i (wZ (V.getD i nd0) z)) o (gI S (c + 2) i z) := by
  obtain ⟨hv, ho, hf, hG⟩ := h
  obtain ⟨n1, n2, n3, n4, n5, n6, n7⟩ := hv.2.2.1 i hi
  refine ⟨tv_upd hv hi ?_ (fun j hj hji => sameN_gI0 (by omega) (fun e => hji e.symm)) ?_ (nr_Z (hv.2.2.2 _ (nd_mem hi)) hp), ho, fr_tr hf (fr_gI (trM0 (by decide))), good_gI hG (by constructor <;> omega) (fun q => absurd q (not_isC hc (by decide)))⟩
  · simp (disch := omega) only [gI_a, gI_k, gI_c, gI_b, gB_i, gB_a, gB_k, gB_c, gB_r, gR_i, gR_b, gR_a, gR_k, gR_c, gIs_a, gIs_c, gIs_b]
  · refine ⟨?_, ?_, ?_, ?_, fun t ht => ?_, ?_, fun t ht => ?_⟩ <;> simp (disch := omega) only [gI_a, gI_k, gI_c]
    · exact n1
    · exact rfl
    · exact n3
    · exact n4
    · exact n5 t ht
    · exact n6
    · exact n7 t ht
theorem tx_text0 {i : Nat} (hc : gT c) (h : TX c S0 V o S) (hi : i < V.length) : TX c S0 (V.set i (wT (V.getD i nd0) [])) o (gI S (c + 4) i 0) := by
  obtain ⟨hv, ho, hf, hG⟩ := h
  obtain ⟨n1, n2, n3, n4, n5, n6, n7⟩ := hv.2.2.1 i hi
  refine ⟨tv_upd hv hi ?_ (fun j hj hji => sameN_gI0 (by omega) (fun e => hji e.symm)) ?_ (nr_T (hv.2.2.2 _ (nd_mem hi)) (by decide) (fun y hy => by cases hy)), ho, fr_tr hf (fr_gI (trM0 (by decide))), good_gI hG (by decide) (fun q => absurd q (not_isC hc (by decide)))⟩
  · simp (disch := omega) only [gI_a, gI_k, gI_c, gI_b, gB_i, gB_a, gB_k, gB_c, gB_r, gR_i, gR_b, gR_a, gR_k, gR_c, gIs_a, gIs_c, gIs_b]
  · refine ⟨?_, ?_, ?_, ?_, fun t ht => absurd ht (Nat.not_lt_zero t), ?_, fun t ht => ?_⟩ <;> simp (disch := omega) only [gI_a, gI_k, gI_c]
    · exact n1
    · exact n2
    · exact n3
    · exact rfl
    · exact n6
    · exact n7 t ht
theorem tx_key0 {i : Nat} (hc : gT c) (h : TX c S0 V o S) (hi : i < V.length) : TX c S0 (V.set i (wQ (V.getD i nd0) [])) o (gI S (c + 6) i 0) := by
  obtain ⟨hv, ho, hf, hG⟩ := h
  obtain ⟨n1, n2, n3, n4, n5, n6, n7⟩ := hv.2.2.1 i hi
  refine ⟨tv_upd hv hi ?_ (fun j hj hji => sameN_gI0 (by omega) (fun e => hji e.symm)) ?_ (nr_Q (hv.2.2.2 _ (nd_mem hi)) (by decide) (fun y hy => by cases hy)), ho, fr_tr hf (fr_gI (trM0 (by decide))), good_gI hG (by decide) (fun q => absurd q (not_isC hc (by decide)))⟩
  · simp (disch := omega) only [gI_a, gI_k, gI_c, gI_b, gB_i, gB_a, gB_k, gB_c, gB_r, gR_i, gR_b, gR_a, gR_k, gR_c, gIs_a, gIs_c, gIs_b]
  · refine ⟨?_, ?_, ?_, ?_, fun t ht => ?_, ?_, fun t ht => absurd ht (Nat.not_lt_zero t)⟩ <;> simp (disch := omega) only [gI_a, gI_k, gI_c]
    · exact n1
    · exact n2
    · exact n3
    · exact n4
    · exact n5 t ht
    · exact rfl
theorem getD_snoc {l : List Int} {x : Int} {i : Nat} (hi : i < l.length + 1) : (l ++ [x]).getD i 0 = if i = l.length then x else l.getD i 0 := by
  rw [getD_app]
  by_cases h : i < l.length
  · rw [if_pos h, if_neg (by omega)]
  · rw [if_neg h, if_pos (by omega), if_pos (by omega)]
theorem tx_sign {i : Nat} {a : Int} {p : Nat} (hc : gT c) (h : TX c S0 V o S) (hi : i < V.length) (ha : 0 ≤ a ∧ a < 256) (hl : (nt V i).length < 40) (hp : p = 40 * i + (nt V i).length) : TX c S0 (V.set i (wT (V.getD i nd0) (nt V i ++ [a]))) o (gI (gI S (c + 5) p a) (c + 4) i ((nt V i).length + 1)) := by
  obtain ⟨hv, ho, hf, hG⟩ := h
  obtain ⟨n1, n2, n3, n4, n5, n6, n7⟩ := hv.2.2.1 i hi
  have hr := hv.2.2.2 _ (nd_mem hi)
  have hl2 := tv_l hv
  refine ⟨tv_upd hv hi ?_ (fun j hj hji => sameN_tr (sameN_gI (fun _ _ _ _ _ e => by omega) (fun _ t ht => by omega) (fun e => by omega)) (sameN_gI0 (by omega) (fun e => hji e.symm))) ?_ (nr_T hr (by simp; omega) (fun y hy => ?_)), ho, fr_tr hf (fr_tr (fr_gI (trM0 (by decide))) (fr_gI (trM0 (by decide)))), good_gI (good_gI hG (by constructor <;> omega) (fun q => by omega)) (by constructor <;> omega) (fun q => absurd q (not_isC hc (by decide)))⟩
  · simp (disch := omega) only [gI_a, gI_k, gI_c, gI_b, gB_i, gB_a, gB_k, gB_c, gB_r, gR_i, gR_b, gR_a, gR_k, gR_c, gIs_a, gIs_c, gIs_b]
  · refine ⟨?_, ?_, ?_, ?_, fun t ht => ?_, ?_, fun t ht => ?_⟩
    · simp (disch := omega) only [gI_a, gI_k, gI_c, gI_b, gB_i, gB_a, gB_k, gB_c, gB_r, gR_i, gR_b, gR_a, gR_k, gR_c, gIs_a, gIs_c, gIs_b]
      exact n1
    · simp (disch := omega) only [gI_a, gI_k, gI_c, gI_b, gB_i, gB_a, gB_k, gB_c, gB_r, gR_i, gR_b, gR_a, gR_k, gR_c, gIs_a, gIs_c, gIs_b]
      exact n2
    · simp (disch := omega) only [gI_a, gI_k, gI_c, gI_b, gB_i, gB_a, gB_k, gB_c, gB_r, gR_i, gR_b, gR_a, gR_k, gR_c, gIs_a, gIs_c, gIs_b]
      exact n3
    · simp (disch := omega) only [gI_a, gI_k, gI_c, gI_b, gB_i, gB_a, gB_k, gB_c, gB_r, gR_i, gR_b, gR_a, gR_k, gR_c, gIs_a, gIs_c, gIs_b]
      show _ = (((nt V i ++ [a]).length : Nat) : Int)
      simp
    · have ht' : t < (nt V i).length + 1 := by simpa [wT] using ht
      show _ = (nt V i ++ [a]).getD t 0
      rw [getD_snoc ht']
      by_cases e : t = (nt V i).length
      · rw [if_pos e, gI_c (by omega), show 40 * i + t = p by omega, gI_a]
      · rw [if_neg e, gI_c (by omega), gI_k (by omega)]
        exact n5 t (by show t < (nt V i).length; omega)
    · simp (disch := omega) only [gI_a, gI_k, gI_c, gI_b, gB_i, gB_a, gB_k, gB_c, gB_r, gR_i, gR_b, gR_a, gR_k, gR_c, gIs_a, gIs_c, gIs_b]
      exact n6
    · rw [gI_c (by omega), gI_c (by omega)]
      exact n7 t ht
  · rcases List.mem_append.mp hy with h | h
    · exact hr.2.2.2.2.2.2.2.1 y h
    · simp at h; subst h; exact ha
theorem tx_ksign {i : Nat} {a : Int} {p : Nat} (hc : gT c) (h : TX c S0 V o S) (hi : i < V.length) (ha : 0 ≤ a ∧ a < 256) (hl : (nq V i).length < 12) (hp : p = 12 * i + (nq V i).length) : TX c S0 (V.set i (wQ (V.getD i nd0) (nq V i ++ [a]))) o (gI (gI S (c + 7) p a) (c + 6) i ((nq V i).length + 1)) := by
  obtain ⟨hv, ho, hf, hG⟩ := h
  obtain ⟨n1, n2, n3, n4, n5, n6, n7⟩ := hv.2.2.1 i hi
  have hr := hv.2.2.2 _ (nd_mem hi)
  have hl2 := tv_l hv
  refine ⟨tv_upd hv hi ?_ (fun j hj hji => sameN_tr (sameN_gI (fun _ _ _ _ _ e => by omega) (fun e => by omega) (fun _ t ht => by omega)) (sameN_gI0 (by omega) (fun e => hji e.symm))) ?_ (nr_Q hr (by simp; omega) (fun y hy => ?_)), ho, fr_tr hf (fr_tr (fr_gI (trM0 (by decide))) (fr_gI (trM0 (by decide)))), good_gI (good_gI hG (by constructor <;> omega) (fun q => by omega)) (by constructor <;> omega) (fun q => absurd q (not_isC hc (by decide)))⟩
  · simp (disch := omega) only [gI_a, gI_k, gI_c, gI_b, gB_i, gB_a, gB_k, gB_c, gB_r, gR_i, gR_b, gR_a, gR_k, gR_c, gIs_a, gIs_c, gIs_b]
  · refine ⟨?_, ?_, ?_, ?_, fun t ht => ?_, ?_, fun t ht => ?_⟩
    · simp (disch := omega) only [gI_a, gI_k, gI_c, gI_b, gB_i, gB_a, gB_k, gB_c, gB_r, gR_i, gR_b, gR_a, gR_k, gR_c, gIs_a, gIs_c, gIs_b]
      exact n1
    · simp (disch := omega) only [gI_a, gI_k, gI_c, gI_b, gB_i, gB_a, gB_k, gB_c, gB_r, gR_i, gR_b, gR_a, gR_k, gR_c, gIs_a, gIs_c, gIs_b]
      exact n2
    · simp (disch := omega) only [gI_a, gI_k, gI_c, gI_b, gB_i, gB_a, gB_k, gB_c, gB_r, gR_i, gR_b, gR_a, gR_k, gR_c, gIs_a, gIs_c, gIs_b]
      exact n3
    · simp (disch := omega) only [gI_a, gI_k, gI_c, gI_b, gB_i, gB_a, gB_k, gB_c, gB_r, gR_i, gR_b, gR_a, gR_k, gR_c, gIs_a, gIs_c, gIs_b]
      exact n4
    · rw [gI_c (by omega), gI_c (by omega)]
      exact n5 t ht
    · simp (disch := omega) only [gI_a, gI_k, gI_c, gI_b, gB_i, gB_a, gB_k, gB_c, gB_r, gR_i, gR_b, gR_a, gR_k, gR_c, gIs_a, gIs_c, gIs_b]
      show _ = (((nq V i ++ [a]).length : Nat) : Int)
      simp
    · have ht' : t < (nq V i).length + 1 := by simpa [wQ] using ht
      show _ = (nq V i ++ [a]).getD t 0
      rw [getD_snoc ht']
      by_cases e : t = (nq V i).length
      · rw [if_pos e, gI_c (by omega), show 12 * i + t = p by omega, gI_a]
      · rw [if_neg e, gI_c (by omega), gI_k (by omega)]
        exact n7 t (by show t < (nq V i).length; omega)
  · rcases List.mem_append.mp hy with h | h
    · exact hr.2.2.2.2.2.2.2.2.2 y h
    · simp at h; subst h; exact ha
end MK2
