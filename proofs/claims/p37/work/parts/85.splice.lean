/-! TREES: pieces are brought in and taken out -/
def CpR (S : GS) (a b dp sp n : Nat) (S1 : GS) : Prop := (∀ k, CopyN S (if dp ≤ k ∧ k < dp + n then b else a) (if dp ≤ k ∧ k < dp + n then sp + (k - dp) else k) S1 a k) ∧ S1.1 a = S.1 a ∧ S1.2 = S.2 ∧ Fr (trM a) S S1 ∧ Good S1
theorem copyN_rf {S : GS} {c k : Nat} : CopyN S c k S c k := ⟨rfl, rfl, rfl, rfl, fun _ _ => rfl, rfl, fun _ _ => rfl⟩
def adjP (L : List ND) (o : Nat) (e : Int) (p : Nat) : List ND := L.mapIdx (fun q x => if q < p ∧ q ≤ o ∧ o < q + x.2.1 then wZ x ((x.2.1 : Int) + e).toNat else x)
/-- the sizes of a node and of all that it is in grow -/
def adjS (L : List ND) (o : Nat) (e : Int) : List ND := adjP L o e (o + 1)
theorem adjP_len {L : List ND} {o p : Nat} {e : Int} : (adjP L o e p).length = L.length := by simp [adjP]
theorem adjP_at {L : List ND} {o p q : Nat} {e : Int} (hq : q < L.length) : (adjP L o e p).getD q nd0 = if q < p ∧ q ≤ o ∧ o < q + nz L q then wZ (L.getD q nd0) ((nz L q : Int) + e).toNat else L.getD q nd0 := by
  unfold adjP nz
  simp only [List.getD_eq_getElem?_getD, List.getElem?_mapIdx, List.getElem?_eq_getElem hq, Option.map_some, Option.getD_some]
theorem adjP_0 {L : List ND} {o : Nat} {e : Int} : adjP L o e 0 = L := by
  unfold adjP
  apply List.ext_getElem?
  intro i
  simp
theorem ext_getD {A B : List ND} (hl : A.length = B.length) (h : ∀ i, i < A.length → A.getD i nd0 = B.getD i nd0) : A = B := by
  apply List.ext_getElem? 
  intro i
  by_cases hi : i < A.length
  · have := h i hi
    rw [List.getD_eq_getElem?_getD, List.getD_eq_getElem?_getD, List.getElem?_eq_getElem hi, List.getElem?_eq_getElem (by omega)] at this
    rw [List.getElem?_eq_getElem hi, List.getElem?_eq_getElem (by omega)]
    simpa using this
  · rw [List.getElem?_eq_none (by omega), List.getElem?_eq_none (by omega)]
theorem adjP_s {L : List ND} {o p : Nat} {e : Int} (hp : p < L.length) (ho : p ≤ o) (h : o < p + nz L p) : adjP L o e (p + 1) = (adjP L o e p).set p (wZ (L.getD p nd0) ((nz L p : Int) + e).toNat) := by
  refine ext_getD (by rw [List.length_set, adjP_len, adjP_len]) (fun i hi => ?_)
  rw [adjP_len] at hi
  rw [getD_set (by rw [adjP_len]; exact hp), adjP_at hi, adjP_at hi]
  by_cases q : i = p
  · subst q
    rw [if_pos ⟨by omega, ho, h⟩, if_pos rfl]
  · rw [if_neg q]
    by_cases r : i < p ∧ i ≤ o ∧ o < i + nz L i
    · rw [if_pos ⟨by omega, r.2⟩, if_pos r]
    · rw [if_neg (fun z => r ⟨by omega, z.2⟩), if_neg r]
theorem adjP_n {L : List ND} {o p : Nat} {e : Int} (h : ¬ (p ≤ o ∧ o < p + nz L p)) : adjP L o e (p + 1) = adjP L o e p := by
  refine ext_getD (by rw [adjP_len, adjP_len]) (fun i hi => ?_)
  rw [adjP_len] at hi
  rw [adjP_at hi, adjP_at hi]
  by_cases r : i < p ∧ i ≤ o ∧ o < i + nz L i
  · rw [if_pos ⟨by omega, r.2⟩, if_pos r]
  · rw [if_neg r]
    by_cases q : i = p
    · subst q
      rw [if_neg (fun z => h z.2)]
    · rw [if_neg (fun z => r ⟨by omega, z.2⟩)]
/-- nodes gone give way to others -/
def spl (V : List ND) (o a g : Nat) (sg : List ND) : List ND := adjS (V.take a ++ sg ++ V.drop (a + g)) o ((sg.length : Int) - g)
section SPL
variable {S S0 : GS} {c d : Nat} {W : TW}
theorem t_copyR {a b dp sp n : Nat} (ha : gT a) (hb : gT b) (hG : Good S) (h1 : dp + n ≤ 100) (h2 : sp + n ≤ 100) : Ev (fun k => f_X10_copyNodes k d 0 S [((a : Nat) : Int), (dp : Int), ((b : Nat) : Int), (sp : Int), (n : Int)]) (fun _ S1 => CpR S a b dp sp n S1) := by
  by_cases hn : 1 ≤ n
  · refine ev_mono (t_copyNodes ha hb hG h1 h2 hn) (fun _ S1 q => ?_)
    subst q
    exact ⟨cpS_at ha hb, cpS_x (fun m a b => by omega), rfl, cpS_fr, cpS_good ha hb hG⟩
  · refine ev_mono (t_copyNodes0 (by constructor <;> omega) (by constructor <;> omega) (by constructor <;> omega) (by omega)) (fun _ S1 q => ?_)
    subst q
    refine ⟨fun k => ?_, rfl, rfl, fr_rf, hG⟩
    simp only [show ¬ (dp ≤ k ∧ k < dp + n) by omega, if_false]
    exact copyN_rf
theorem spl_111 {o g n : Nat} {L : List ND} (hc : gT c) (ho : o < L.length) (hsz : ∀ p, p ≤ o → o < p + nz L p → 1 ≤ (nz L p : Int) + ((n : Int) - g) ∧ (nz L p : Int) + ((n : Int) - g) ≤ 100) {B : Bool} (hgn : g ≤ 100 ∧ n ≤ 100) : ∀ (m p : Nat) (S : GS), o + 1 - p < m → p ≤ o + 1 → TY c S0 (adjP L o ((n : Int) - g) p, B) S → Ev (fun k => f_X10_splice k d 111 S [((c : Nat) : Int), (o : Int), (g : Int), (n : Int), (p : Int)]) (fun x S1 => x = 1 ∧ TY c S0 (adjS L o ((n : Int) - g), B) S1) := by
  intro m
  induction m with
  | zero => intros; omega
  | succ m ih =>
    intro p S hm hp h
    have hll := tv_l h.1
    rw [adjP_len] at hll
    by_cases hpo : p ≤ o
    · have hz := tv_z h.1 (i := p) (by rw [adjP_len]; omega)
      have hr := (tv_r h.1 (i := p) (by rw [adjP_len]; omega)).2.2.2.1
      have e : nz (adjP L o ((n : Int) - g) p) p = nz L p := by
        unfold nz
        rw [adjP_at (by omega), if_neg (by omega)]
      have hr' : nz (adjP L o ((n : Int) - g) p) p ≤ 100 := hr
      rw [e] at hz hr'
      by_cases hq : o < p + nz L p
      · have q := hsz p hpo hq
        have k := tx_size (i := p) (z := ((nz L p : Int) + ((n : Int) - g)).toNat) hc h (by rw [adjP_len]; omega) (by omega)
        have e2 : (adjP L o ((n : Int) - g) p).getD p nd0 = L.getD p nd0 := by rw [adjP_at (by omega), if_neg (by omega)]
        rw [e2, ← adjP_s (by omega) hpo hq, show ((((nz L p : Int) + ((n : Int) - g)).toNat : Nat) : Int) = S.1 (c + 2) (p : Int).toNat + ((n : Int) - g) by rw [Int.toNat_natCast, hz]; omega] at k
        have hz' : S.1 (c + 2) (p : Int).toNat = (nz L p : Int) := hz
        have k2 := ih (p + 1) _ (by omega) (by omega) k
        refine ev_up (fun n => e_X10_splice_111) ?_
        unfold b_X10_splice_111
        repeat' (first
          | with_reducible refine ev_gv ?_
          | with_reducible refine ev_gg ?_ ?_
          | with_reducible refine ev_ite (fun _ => ?_) (fun _ => ?_)
          | omega
          | assumption)
        all_goals exact k2
      · have k2 := ih (p + 1) S (by omega) (by omega) (by rw [adjP_n (fun z => hq z.2)]; exact h)
        have hz' : S.1 (c + 2) (p : Int).toNat = (nz L p : Int) := hz
        refine ev_up (fun n => e_X10_splice_111) ?_
        unfold b_X10_splice_111
        repeat' (first
          | with_reducible refine ev_gv ?_
          | with_reducible refine ev_gg ?_ ?_
          | with_reducible refine ev_ite (fun _ => ?_) (fun _ => ?_)
          | omega
          | assumption)
        all_goals exact k2
    · have e3 : p = o + 1 := by omega
      subst e3
      refine ev_up (fun n => e_X10_splice_111) ?_
      unfold b_X10_splice_111
      repeat' (first
        | with_reducible refine ev_gv ?_
        | with_reducible refine ev_gg ?_ ?_
        | with_reducible refine ev_ite (fun _ => ?_) (fun _ => ?_)
        | omega
        | assumption)
      exact ev_ret ⟨rfl, h⟩
theorem ty_splice {c2 o a g f n : Nat} {U : List ND} {ob : Bool} (hc : gT c) (hc2 : gT c2) (hn : n = 0 ∨ (c2 ≠ c ∧ f + n ≤ U.length)) (hd : 1 ≤ d) (hv : TV S c2 U) (hob : S.2.1 c2 8 = ob) (hf : f ≤ 100) (hao : o < a) (hag : a + g ≤ W.1.length) (hn1 : n ≤ 100) (hsz : ∀ p, p ≤ o → o < p + nz W.1 p → 1 ≤ (nz W.1 p : Int) + ((n : Int) - g) ∧ (W.1.length + n ≤ 100 + g → (nz W.1 p : Int) + ((n : Int) - g) ≤ 100)) (h : TY c S0 W S) : Ev (fun k => f_X10_splice k d 0 S [((c : Nat) : Int), (o : Int), (a : Int), (g : Int), ((c2 : Nat) : Int), (f : Int), (n : Int)]) (fun x S1 => if ob = false ∧ W.1.length + n ≤ 100 + g then x = 1 ∧ TY c S0 (spl W.1 o a g (seg U f n), W.2) S1 else x = 0 ∧ TY c S0 (W.1, true) S1) := by
  have h1 := tv_n h.1
  have h2 := tv_l h.1
  have h3 := tv_l hv
  have hb := bi_r (S.2.1 c2 8)
  have hb1 : ob = false ∨ bi (S.2.1 c2 8) = 1 := by
    cases ob
    · exact Or.inl rfl
    · refine Or.inr ?_
      rw [hob]
      rfl
  by_cases e : ob = false ∧ W.1.length + n ≤ 100 + g
  · simp only [if_pos e]
    obtain ⟨e1, e2⟩ := e
    have hb0 : bi (S.2.1 c2 8) = 0 := by rw [hob, e1]; rfl
    have hsl : (seg U f n).length = n := by
      rcases hn with q | q
      · subst q; unfold seg; simp
      · exact seg_len q.2
    have kc := t_copyR (d := d - 1) (S := S) (a := c) (b := c) (dp := a + n) (sp := a + g) (n := W.1.length - (a + g)) hc hc h.2.2.2 (by omega) (by omega)
    rw [show ((a + n : Nat) : Int) = (a : Int) + n by omega, show ((a + g : Nat) : Int) = (a : Int) + g by omega, show ((W.1.length - (a + g) : Nat) : Int) = S.1 c 7 - ((a : Int) + g) by rw [h1]; omega] at kc
    refine ev_up (fun n => e_X10_splice_0) ?_
    unfold b_X10_splice_0
    repeat' (first
      | with_reducible refine ev_gv ?_
      | with_reducible refine ev_gg ?_ ?_
      | with_reducible refine ev_ite (fun _ => ?_) (fun _ => ?_)
      | refine ev_gcr (rd_as (t_has hc h.1 (i := (o : Int)) (by constructor <;> omega)) (if_pos (by omega))) ?_
      | refine ev_gcr (t_isOverfull hc2) ?_
      | omega
      | assumption)
    refine ev_gc kc (fun _ S1 q1 => ?_)
    obtain ⟨a1, a2, a3, a4, a5⟩ := q1
    refine ev_gc (t_copyR (d := d - 1) (S := S1) (a := c) (b := c2) (dp := a) (sp := f) (n := n) hc hc2 a5 (by omega) (by omega)) (fun _ S2 q2 => ?_)
    obtain ⟨b1, b2, b3, b4, b5⟩ := q2
    have e7 : S2.1 c 7 = (W.1.length : Int) := by rw [b2, a2]; exact h1
    simp only [e7]
    refine ev_gv ?_
    refine ev_gv ?_
    refine ev_gv ?_
    refine ev_gv ?_
    have hL : (W.1.take a ++ seg U f n ++ W.1.drop (a + g)).length = W.1.length + n - g := by
      rw [List.length_append, List.length_append, List.length_take, List.length_drop, hsl]
      omega
    have htk : (W.1.take a).length = a := by rw [List.length_take]; omega
    have tv2 : TV (gI S2 c 7 ((W.1.length : Int) + ((n : Int) - g))) c (W.1.take a ++ seg U f n ++ W.1.drop (a + g)) := by
      refine ⟨?_, by omega, fun k hk => ?_, fun x hx => ?_⟩
      · rw [gI_a, hL]; omega
      · rw [hL] at hk
        have same : SameN S2 (gI S2 c 7 ((W.1.length : Int) + ((n : Int) - g))) c k := by
          refine ⟨?_, ?_, ?_, ?_, fun t ht => ?_, ?_, fun t ht => ?_⟩ <;> rw [gI_c (by omega)]
        have b1k := b1 k
        rw [getD_append, List.length_append, htk, hsl, getD_append, htk]
        by_cases k1 : k < a
        · rw [if_pos (by omega), if_pos k1]
          simp only [show ¬ (a ≤ k ∧ k < a + n) by omega, if_false] at b1k
          have a1k := a1 k
          simp only [show ¬ (a + n ≤ k ∧ k < a + n + (W.1.length - (a + g))) by omega, if_false] at a1k
          have e9 : (W.1.take a).getD k nd0 = W.1.getD k nd0 := by
            rw [List.getD_eq_getElem?_getD, List.getD_eq_getElem?_getD, List.getElem?_take, if_pos k1]
          rw [e9]
          have r := h.1.2.2.2 _ (nd_mem (show k < W.1.length by omega))
          exact nv_same (nv_copy (nv_copy (h.1.2.2.1 k (by omega)) r a1k) r b1k) r same
        · by_cases k2 : k < a + n
          · rw [if_pos k2, if_neg k1, seg_at (by omega)]
            simp only [show (a ≤ k ∧ k < a + n) by omega, and_self, if_true] at b1k
            rcases hn with q | ⟨q, q'⟩
            · omega
            · have hv1 : TV S1 c2 U := tv_fr hv a4 (fun k h1 h2 => by unfold trM; omega)
              have r := hv1.2.2.2 _ (nd_mem (show f + (k - a) < U.length by omega))
              exact nv_same (nv_copy (hv1.2.2.1 _ (by omega)) r b1k) r same
          · rw [if_neg k2]
            simp only [show ¬ (a ≤ k ∧ k < a + n) by omega, if_false] at b1k
            have a1k := a1 k
            simp only [show (a + n ≤ k ∧ k < a + n + (W.1.length - (a + g))) by omega, and_self, if_true] at a1k
            have e9 : (W.1.drop (a + g)).getD (k - (a + n)) nd0 = W.1.getD (a + g + (k - (a + n))) nd0 := by
              rw [List.getD_eq_getElem?_getD, List.getD_eq_getElem?_getD, List.getElem?_drop]
            rw [e9]
            have r := h.1.2.2.2 _ (nd_mem (show a + g + (k - (a + n)) < W.1.length by omega))
            exact nv_same (nv_copy (nv_copy (h.1.2.2.1 _ (by omega)) r a1k) r b1k) r same
      · rcases List.mem_append.mp hx with q | q
        · rcases List.mem_append.mp q with q | q
          · exact h.1.2.2.2 x (List.mem_of_mem_take q)
          · exact hv.2.2.2 x (seg_mem q)
        · exact h.1.2.2.2 x (List.mem_of_mem_drop q)
    have ty2 : TY c S0 (adjP (W.1.take a ++ seg U f n ++ W.1.drop (a + g)) o ((n : Int) - g) 0, W.2) (gI S2 c 7 ((W.1.length : Int) + ((n : Int) - g))) := by
      rw [adjP_0]
      refine ⟨tv2, ?_, fr_tr h.2.2.1 (fr_tr a4 (fr_tr b4 (fr_gI trMc))), good_gI b5 (by constructor <;> omega) (fun q => absurd q (not_isC (k := 0) hc (by decide)))⟩
      rw [gI_b, b3, a3]
      exact h.2.1
    have nzL : ∀ p, p ≤ o → nz (W.1.take a ++ seg U f n ++ W.1.drop (a + g)) p = nz W.1 p := by
      intro p hp
      unfold nz
      rw [getD_append, List.length_append, htk, hsl, if_pos (by omega), getD_append, htk, if_pos (by omega), List.getD_eq_getElem?_getD, List.getD_eq_getElem?_getD, List.getElem?_take, if_pos (by omega)]
    have k := spl_111 (d := d) (o := o) (g := g) (n := n) (B := W.2) hc (by omega) (fun p hp hq => by rw [nzL p hp] at hq ⊢; have := hsz p hp hq; exact ⟨this.1, this.2 e2⟩) (by omega) _ 0 _ (Nat.lt_succ_self _) (Nat.zero_le _) ty2
    unfold spl
    rw [hsl]
    exact k
  · simp only [if_neg e]
    have fin : ∀ x : Int, x = 0 → Ev (fun _ => some (x, gB S c 8 (decide ((1 : Int) = 1)))) (fun x S1 => x = 0 ∧ TY c S0 (W.1, true) S1) := fun x hx => ev_ret ⟨hx, tx_over h⟩
    refine ev_up (fun n => e_X10_splice_0) ?_
    unfold b_X10_splice_0
    repeat' (first
      | with_reducible refine ev_gv ?_
      | with_reducible refine ev_gg ?_ ?_
      | with_reducible refine ev_ite (fun _ => ?_) (fun _ => ?_)
      | refine ev_gcr (rd_as (t_has hc h.1 (i := (o : Int)) (by constructor <;> omega)) (if_pos (by omega))) ?_
      | refine ev_gcr (t_isOverfull hc2) ?_
      | omega
      | assumption)
    · exact fin _ rfl
    · exfalso
      rcases hb1 with q | q
      · exact e ⟨q, by omega⟩
      · omega
    · exact fin _ rfl
end SPL
