/-! TREES: nodes of one into another -/
def CopyN (S : GS) (c i : Nat) (S1 : GS) (c' k : Nat) : Prop := S1.1 (c' + 1) k = S.1 (c + 1) i ∧ S1.1 (c' + 2) k = S.1 (c + 2) i ∧ S1.1 (c' + 3) k = S.1 (c + 3) i ∧ S1.1 (c' + 4) k = S.1 (c + 4) i ∧ (∀ j, j < 40 → S1.1 (c' + 5) (40 * k + j) = S.1 (c + 5) (40 * i + j)) ∧ S1.1 (c' + 6) k = S.1 (c + 6) i ∧ ∀ j, j < 12 → S1.1 (c' + 7) (12 * k + j) = S.1 (c + 7) (12 * i + j)
theorem nv_copy {S S1 : GS} {c i c' k : Nat} {x : ND} (h : NV S c i x) (hr : NR x) (hs : CopyN S c i S1 c' k) : NV S1 c' k x := by
  obtain ⟨n1, n2, n3, n4, n5, n6, n7⟩ := h
  obtain ⟨s1, s2, s3, s4, s5, s6, s7⟩ := hs
  obtain ⟨-, -, -, -, -, -, r7, -, r8, -⟩ := hr
  exact ⟨s1.trans n1, s2.trans n2, s3.trans n3, s4.trans n4, fun j hj => (s5 j (by omega)).trans (n5 j hj), s6.trans n6, fun j hj => (s7 j (by omega)).trans (n7 j hj)⟩
theorem gCp_n {S : GS} {c1 c0 c' : Nat} {dp sp n : Int} (h : c' ≠ c1) : (gCp S c1 c0 dp sp n).1 c' = S.1 c' := gIs_n h
theorem gCp_1 {S : GS} {c1 c0 k : Nat} {dp sp n : Int} : (gCp S c1 c0 dp sp n).1 c1 k = if dp.toNat ≤ k ∧ k < dp.toNat + n.toNat then S.1 c0 (sp.toNat + (k - dp.toNat)) else S.1 c1 k := by
  unfold gCp
  rw [gIs_1]
  rfl
theorem good_gCp {S : GS} {c1 c0 : Nat} {dp sp n : Int} (h : Good S) (h0 : c0 < 495) (h1 : c1 < 495) (hc : isC c1 → isC c0) : Good (gCp S c1 c0 dp sp n) := by
  refine good_gIs h (fun k => ?_) (fun q k => ?_)
  · unfold va_cpy
    split
    · exact h.1 _ _ h0
    · exact h.1 _ _ h1
  · unfold va_cpy
    split
    · exact h.2.1 _ _ (hc q)
    · exact h.2.1 _ _ q
theorem fr_gCp {M : Nat → Prop} {S : GS} {c1 c0 : Nat} {dp sp n : Int} (h : M c1) : Fr M S (gCp S c1 c0 dp sp n) := fr_gIs h
/-- the seven rows -/
def cpS (S : GS) (a b : Nat) (dp sp n : Int) : GS := gCp (gCp (gCp (gCp (gCp (gCp (gCp S (a + 1) (b + 1) dp sp n) (a + 2) (b + 2) dp sp n) (a + 3) (b + 3) dp sp n) (a + 4) (b + 4) dp sp n) (a + 5) (b + 5) (dp * 40) (sp * 40) (n * 40)) (a + 6) (b + 6) dp sp n) (a + 7) (b + 7) (dp * 12) (sp * 12) (n * 12)
section CPY
variable {S S0 : GS} {c d : Nat} {W : TW}
theorem cpS_x {a b c' : Nat} {dp sp n : Int} (h : ∀ m, 1 ≤ m → m ≤ 7 → c' ≠ a + m) : (cpS S a b dp sp n).1 c' = S.1 c' := by
  unfold cpS
  rw [gCp_n (h 7 (by omega) (by omega)), gCp_n (h 6 (by omega) (by omega)), gCp_n (h 5 (by omega) (by omega)), gCp_n (h 4 (by omega) (by omega)), gCp_n (h 3 (by omega) (by omega)), gCp_n (h 2 (by omega) (by omega)), gCp_n (h 1 (by omega) (by omega))]
theorem cpS_at {a b : Nat} {dp sp n : Nat} (ha : gT a) (hb : gT b) (k : Nat) : CopyN S (if dp ≤ k ∧ k < dp + n then b else a) (if dp ≤ k ∧ k < dp + n then sp + (k - dp) else k) (cpS S a b dp sp n) a k := by
  have e40 : ((dp : Int) * 40).toNat = 40 * dp := by omega
  have e40s : ((sp : Int) * 40).toNat = 40 * sp := by omega
  have e40n : ((n : Int) * 40).toNat = 40 * n := by omega
  have e12 : ((dp : Int) * 12).toNat = 12 * dp := by omega
  have e12s : ((sp : Int) * 12).toNat = 12 * sp := by omega
  have e12n : ((n : Int) * 12).toNat = 12 * n := by omega
  unfold cpS
  by_cases h : dp ≤ k ∧ k < dp + n
  · simp only [if_pos h]
    refine ⟨?_, ?_, ?_, ?_, fun j hj => ?_, ?_, fun j hj => ?_⟩
    · rw [gCp_n (by omega), gCp_n (by omega), gCp_n (by omega), gCp_n (by omega), gCp_n (by omega), gCp_n (by omega), gCp_1, if_pos (by omega)]
      simp only [Int.toNat_natCast]
    · rw [gCp_n (by omega), gCp_n (by omega), gCp_n (by omega), gCp_n (by omega), gCp_n (by omega), gCp_1, if_pos (by omega), gCp_n (by omega)]
      simp only [Int.toNat_natCast]
    · rw [gCp_n (by omega), gCp_n (by omega), gCp_n (by omega), gCp_n (by omega), gCp_1, if_pos (by omega), gCp_n (by omega), gCp_n (by omega)]
      simp only [Int.toNat_natCast]
    · rw [gCp_n (by omega), gCp_n (by omega), gCp_n (by omega), gCp_1, if_pos (by omega), gCp_n (by omega), gCp_n (by omega), gCp_n (by omega)]
      simp only [Int.toNat_natCast]
    · rw [gCp_n (by omega), gCp_n (by omega), gCp_1, if_pos (by omega), gCp_n (by omega), gCp_n (by omega), gCp_n (by omega), gCp_n (by omega)]
      rw [show ((sp : Int) * 40).toNat + (40 * k + j - ((dp : Int) * 40).toNat) = 40 * (sp + (k - dp)) + j by omega]
    · rw [gCp_n (by omega), gCp_1, if_pos (by omega), gCp_n (by omega), gCp_n (by omega), gCp_n (by omega), gCp_n (by omega), gCp_n (by omega)]
      simp only [Int.toNat_natCast]
    · rw [gCp_1, if_pos (by omega), gCp_n (by omega), gCp_n (by omega), gCp_n (by omega), gCp_n (by omega), gCp_n (by omega), gCp_n (by omega)]
      rw [show ((sp : Int) * 12).toNat + (12 * k + j - ((dp : Int) * 12).toNat) = 12 * (sp + (k - dp)) + j by omega]
  · simp only [if_neg h]
    refine ⟨?_, ?_, ?_, ?_, fun j hj => ?_, ?_, fun j hj => ?_⟩
    · rw [gCp_n (by omega), gCp_n (by omega), gCp_n (by omega), gCp_n (by omega), gCp_n (by omega), gCp_n (by omega), gCp_1, if_neg (by omega)]
    · rw [gCp_n (by omega), gCp_n (by omega), gCp_n (by omega), gCp_n (by omega), gCp_n (by omega), gCp_1, if_neg (by omega), gCp_n (by omega)]
    · rw [gCp_n (by omega), gCp_n (by omega), gCp_n (by omega), gCp_n (by omega), gCp_1, if_neg (by omega), gCp_n (by omega), gCp_n (by omega)]
    · rw [gCp_n (by omega), gCp_n (by omega), gCp_n (by omega), gCp_1, if_neg (by omega), gCp_n (by omega), gCp_n (by omega), gCp_n (by omega)]
    · rw [gCp_n (by omega), gCp_n (by omega), gCp_1, if_neg (by omega), gCp_n (by omega), gCp_n (by omega), gCp_n (by omega), gCp_n (by omega)]
    · rw [gCp_n (by omega), gCp_1, if_neg (by omega), gCp_n (by omega), gCp_n (by omega), gCp_n (by omega), gCp_n (by omega), gCp_n (by omega)]
    · rw [gCp_1, if_neg (by omega), gCp_n (by omega), gCp_n (by omega), gCp_n (by omega), gCp_n (by omega), gCp_n (by omega), gCp_n (by omega)]
theorem cpS_good {a b : Nat} {dp sp n : Int} (ha : gT a) (hb : gT b) (h : Good S) : Good (cpS S a b dp sp n) := by
  unfold cpS
  exact good_gCp (good_gCp (good_gCp (good_gCp (good_gCp (good_gCp (good_gCp h (by omega) (by omega) (fun q => by unfold isC at *; omega)) (by omega) (by omega) (fun q => by unfold isC at *; omega)) (by omega) (by omega) (fun q => by unfold isC at *; omega)) (by omega) (by omega) (fun q => by unfold isC at *; omega)) (by omega) (by omega) (fun q => by unfold isC at *; omega)) (by omega) (by omega) (fun q => by unfold isC at *; omega)) (by omega) (by omega) (fun q => by unfold isC at *; omega)
theorem cpS_fr {a b : Nat} {dp sp n : Int} : Fr (trM a) S (cpS S a b dp sp n) := by
  unfold cpS
  exact fr_tr (fr_tr (fr_tr (fr_tr (fr_tr (fr_tr (fr_gCp (trM0 (by decide))) (fr_gCp (trM0 (by decide)))) (fr_gCp (trM0 (by decide)))) (fr_gCp (trM0 (by decide)))) (fr_gCp (trM0 (by decide)))) (fr_gCp (trM0 (by decide)))) (fr_gCp (trM0 (by decide)))
theorem t_copyNodes {a b : Nat} {dp sp n : Nat} (ha : gT a) (hb : gT b) (hG : Good S) (h1 : dp + n ≤ 100) (h2 : sp + n ≤ 100) (hn : 1 ≤ n) : Ev (fun k => f_X10_copyNodes k d 0 S [((a : Nat) : Int), (dp : Int), ((b : Nat) : Int), (sp : Int), (n : Int)]) (fun _ S1 => S1 = cpS S a b dp sp n) := by
  refine ev_up (fun n => e_X10_copyNodes_0) ?_
  unfold b_X10_copyNodes_0
  repeat' (first
    | with_reducible refine ev_gv ?_
    | with_reducible refine ev_gg ?_ ?_
    | with_reducible refine ev_ite (fun _ => ?_) (fun _ => ?_)
    | omega
    | assumption)
  · intro i hi
    exact (good_gCp (good_gCp (good_gCp (good_gCp hG (by omega) (by omega) (fun q => by unfold isC at *; omega)) (by omega) (by omega) (fun q => by unfold isC at *; omega)) (by omega) (by omega) (fun q => by unfold isC at *; omega)) (by omega) (by omega) (fun q => by unfold isC at *; omega)).2.1 _ _ (by unfold isC; omega)
  · intro i hi
    exact (good_gCp (good_gCp (good_gCp (good_gCp (good_gCp (good_gCp hG (by omega) (by omega) (fun q => by unfold isC at *; omega)) (by omega) (by omega) (fun q => by unfold isC at *; omega)) (by omega) (by omega) (fun q => by unfold isC at *; omega)) (by omega) (by omega) (fun q => by unfold isC at *; omega)) (by omega) (by omega) (fun q => by unfold isC at *; omega)) (by omega) (by omega) (fun q => by unfold isC at *; omega)).2.1 _ _ (by unfold isC; omega)
  · exact ev_ret rfl
theorem t_copyNodes0 {a b : Nat} {dp sp : Int} {n : Int} (h1 : inr dp) (h2 : inr sp) (hn : inr n) (hn1 : n < 1) : Ev (fun k => f_X10_copyNodes k d 0 S [((a : Nat) : Int), dp, ((b : Nat) : Int), sp, n]) (fun _ S1 => S1 = S) := by
  refine ev_up (fun n => e_X10_copyNodes_0) ?_
  unfold b_X10_copyNodes_0
  repeat' (first
    | with_reducible refine ev_gv ?_
    | with_reducible refine ev_gg ?_ ?_
    | with_reducible refine ev_ite (fun _ => ?_) (fun _ => ?_)
    | omega
    | assumption)
  all_goals exact ev_ret rfl
/-- a piece of a row of nodes -/
def seg (U : List ND) (f n : Nat) : List ND := (U.drop f).take n
theorem seg_len {U : List ND} {f n : Nat} (h : f + n ≤ U.length) : (seg U f n).length = n := by
  unfold seg
  rw [List.length_take, List.length_drop]
  omega
theorem seg_at {U : List ND} {f n k : Nat} (hk : k < n) : (seg U f n).getD k nd0 = U.getD (f + k) nd0 := by
  unfold seg
  rw [List.getD_eq_getElem?_getD, List.getD_eq_getElem?_getD, List.getElem?_take, if_pos hk, List.getElem?_drop]
theorem seg_mem {U : List ND} {f n : Nat} {x : ND} (h : x ∈ seg U f n) : x ∈ U := List.mem_of_mem_drop (List.mem_of_mem_take h)
theorem getD_append {A B : List ND} {k : Nat} : (A ++ B).getD k nd0 = if k < A.length then A.getD k nd0 else B.getD (k - A.length) nd0 := by
  simp only [List.getD_eq_getElem?_getD]
  split
  · rename_i h; rw [List.getElem?_append_left h]
  · rename_i h
    rw [List.getElem?_append_right (by omega)]
/-- what append does, and answers -/
def apW (W : TW) (U : List ND) (o : Bool) (f : Int) : TW := if o = false ∧ 1 ≤ szI U f ∧ (W.1.length : Int) + szI U f ≤ 100 then (W.1 ++ seg U f.toNat (szI U f).toNat, W.2) else (W.1, true)
def apA (W : TW) (U : List ND) (o : Bool) (f : Int) : Int := if o = false ∧ 1 ≤ szI U f ∧ (W.1.length : Int) + szI U f ≤ 100 then W.1.length else -1
theorem bi_r (b : Bool) : bi b = 0 ∨ bi b = 1 := by cases b <;> simp [bi]
theorem ty_append {c2 : Nat} {U : List ND} {o : Bool} {f : Int} (hc : gT c) (hc2 : gT c2) (hne : c2 ≠ c) (hd : 1 ≤ d) (hv : TV S c2 U) (ho : S.2.1 c2 8 = o) (hf : inr f) (hin : f + szI U f ≤ U.length ∨ szI U f < 1) (h : TY c S0 W S) : Ev (fun n => f_X10_append n d 0 S [((c : Nat) : Int), ((c2 : Nat) : Int), f]) (fun x S1 => x = apA W U o f ∧ TY c S0 (apW W U o f) S1) := by
  have h1 := tv_n h.1
  have h2 := tv_l h.1
  have h3 := tv_l hv
  have hb := bi_r (S.2.1 c2 8)
  have hb1 : o = false ∨ bi (S.2.1 c2 8) = 1 := by
    cases o
    · exact Or.inl rfl
    · refine Or.inr ?_
      rw [ho]
      rfl
  have hs0 : 0 ≤ szI U f ∧ szI U f ≤ 100 := by
    unfold szI
    split
    · have := (tv_all hv (i := f) (by omega) (by omega)).2.2.2.2.2.2.2
      omega
    · omega
  unfold apA apW
  by_cases e : o = false ∧ 1 ≤ szI U f ∧ (W.1.length : Int) + szI U f ≤ 100
  · simp only [if_pos e]
    obtain ⟨e1, e2, e3⟩ := e
    have hb0 : bi (S.2.1 c2 8) = 0 := by rw [ho, e1]; rfl
    have hf0 : 0 ≤ f ∧ f < (U.length : Int) := by
      by_cases q : 0 ≤ f ∧ f < (U.length : Int)
      · exact q
      · have : szI U f = 0 := if_neg q
        omega
    obtain ⟨f, rfl⟩ : ∃ k : Nat, f = (k : Int) := ⟨f.toNat, by omega⟩
    obtain ⟨z, hz⟩ : ∃ z : Nat, szI U (f : Int) = (z : Int) := ⟨(szI U (f : Int)).toNat, by omega⟩
    simp only [hz] at e2 e3 hs0 hin ⊢
    simp only [Int.toNat_natCast]
    have hsl := seg_len (U := U) (f := f) (n := z) (by omega)
    have kc := t_copyNodes (d := d - 1) (S := S) (a := c) (b := c2) (dp := W.1.length) (sp := f) (n := z) hc hc2 h.2.2.2 (by omega) (by omega) (by omega)
    have hx : (cpS S c c2 (W.1.length : Int) (f : Int) (z : Int)).1 c 7 = (W.1.length : Int) := by
      rw [cpS_x (fun m a b => by omega)]; exact h1
    refine ev_up (fun n => e_X10_append_0) ?_
    unfold b_X10_append_0
    repeat' (first
      | with_reducible refine ev_gv ?_
      | with_reducible refine ev_gg ?_ ?_
      | with_reducible refine ev_ite (fun _ => ?_) (fun _ => ?_)
      | refine ev_gcr (rd_as (t_size hc2 hv hf) hz) ?_
      | refine ev_gcr (t_isOverfull hc2) ?_
      | omega
      | assumption)
    rw [h1]
    refine ev_gc kc (fun _ S1 q => ?_)
    subst q
    simp only [hx]
    repeat' (first
      | with_reducible refine ev_gv ?_
      | with_reducible refine ev_gg ?_ ?_
      | with_reducible refine ev_ite (fun _ => ?_) (fun _ => ?_)
      | omega
      | assumption)
    refine ev_ret ⟨?_, ⟨?_, ?_, ?_, ?_⟩, ?_, ?_, ?_⟩
    · rw [gI_a]; omega
    · rw [gI_a, List.length_append, hsl]; omega
    · rw [List.length_append, hsl]; omega
    · intro i hi
      rw [List.length_append, hsl] at hi
      have q := cpS_at (S := S) (dp := W.1.length) (sp := f) (n := z) hc hc2 i
      have same : SameN (cpS S c c2 (W.1.length : Int) (f : Int) (z : Int)) (gI (cpS S c c2 (W.1.length : Int) (f : Int) (z : Int)) c 7 ((W.1.length : Int) + (z : Int))) c i := by
        refine ⟨?_, ?_, ?_, ?_, fun t ht => ?_, ?_, fun t ht => ?_⟩ <;> rw [gI_c (by omega)]
      rw [getD_append]
      by_cases hil : i < W.1.length
      · rw [if_pos hil]
        simp only [show ¬ (W.1.length ≤ i ∧ i < W.1.length + z) by omega, if_false] at q
        have r := h.1.2.2.2 _ (nd_mem hil)
        exact nv_same (nv_copy (h.1.2.2.1 i hil) r q) r same
      · rw [if_neg hil, seg_at (by omega)]
        simp only [show W.1.length ≤ i ∧ i < W.1.length + z by omega, and_self, if_true] at q
        have r := hv.2.2.2 _ (nd_mem (show f + (i - W.1.length) < U.length by omega))
        exact nv_same (nv_copy (hv.2.2.1 _ (by omega)) r q) r same
    · intro x hx
      rcases List.mem_append.mp hx with q | q
      · exact h.1.2.2.2 x q
      · exact hv.2.2.2 x (seg_mem q)
    · exact h.2.1
    · exact fr_tr h.2.2.1 (fr_tr cpS_fr (fr_gI trMc))
    · exact good_gI (cpS_good hc hc2 h.2.2.2) (by constructor <;> omega) (fun q => absurd q (not_isC (k := 0) hc (by decide)))
  · simp only [if_neg e]
    have fin : ∀ x : Int, x = -1 → Ev (fun _ => some (x, gB S c 8 (decide ((1 : Int) = 1)))) (fun x S1 => x = -1 ∧ TY c S0 (W.1, true) S1) := fun x hx => ev_ret ⟨hx, tx_over h⟩
    refine ev_up (fun n => e_X10_append_0) ?_
    unfold b_X10_append_0
    repeat' (first
      | with_reducible refine ev_gv ?_
      | with_reducible refine ev_gg ?_ ?_
      | with_reducible refine ev_ite (fun _ => ?_) (fun _ => ?_)
      | refine ev_gcr (t_size hc2 hv hf) ?_
      | refine ev_gcr (t_isOverfull hc2) ?_
      | omega
      | assumption)
    · exact fin _ rfl
    · exact fin _ rfl
    · exfalso
      rcases hb1 with q | q
      · exact e ⟨q, by omega, by omega⟩
      · omega
    · exact fin _ rfl
end CPY
