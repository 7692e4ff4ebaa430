/-! THE REFERENCE: documents brought, kept, how deep they are -/
section RD1
variable {S : GS} {d K : Nat} {V : List ND}
/-- a NODE of one comes, with a KEY -/
theorem q_brings {k f i m : Int} {F I M : Nat} {o : Option (List ND)} {w : List Int} (hd : 4 ≤ d) (hk : k = (K : Int)) (hK : K < 48) (hf : f = (F : Int)) (hF : F < 48) (hi : i = (I : Int)) (hm : m = (M : Int)) (hM : M ≤ 1) (hne : F ≠ K) (h0 : LK S F V) (hV : TR V ∧ PZL V) (hI : I < V.length) (hw : M = 1 → WD S w ∧ w.length ≤ 12) (h : MD S K o) : Ev (fun n => f_X12_brings n d 0 S [k, f, i, m]) (fun _ S1 => MD S1 K (apM o (mny (kyT (sg V I) (if M = 1 then w else [])))) ∧ FC (doP K) S S1) := by
  subst hk hf hi hm
  have hz := pz_l hV.2
  have l := h0.2.1
  have wi := hV.1.1.1 I hI
  have zi := hz I
  obtain ⟨m0, m1, m2, m3⟩ := md_n h
  have tI : TR (sg V I) := (tr_sg hV.1.1 hV.2 hI).1
  have base : seg (mny V) I (I + nz V I - I) = mny (sg V I) := by
    rw [Nat.add_sub_cancel_left]
    exact mny_sg hV.1.1 hI
  have mr := mny_root tI
  have lT : (sg V I).length = nz V I := sg_len hV.1.1 hI
  refine ev_up (fun n => e_X12_brings_0) ?_
  unfold b_X12_brings_0
  refine ev_gg (by first | omega | (constructor <;> omega)) ?_
  refine ev_gv ?_
  rw [Int.toNat_natCast, m2]
  refine ev_gg (by first | omega | (constructor <;> omega)) ?_
  refine ev_gcr (q_endL (d := d - 1) (K := F) (I := I) (by omega) rfl hF rfl h0 hI) ?_
  refine ev_gc (q_copies (d := d - 1) (K := K) (F := F) (A := I) (E := I + nz V I) (W0 := mny V) (by omega) rfl hK rfl hF rfl rfl (by omega) (by rw [mny_len]; exact wi) hne (lk_mr hV.1.1 hV.2 h0) h) (fun _ S1 q1 => ?_)
  obtain ⟨q1, f1⟩ := q1
  rw [base] at q1
  refine ev_gg (by first | omega | (constructor <;> omega)) ?_
  refine ev_ite (fun z => ?_) (fun z => ?_)
  · refine ev_ret ⟨?_, f1⟩
    have en : apM o (mny (sg V I)) = none := by
      cases o with
      | none => rfl
      | some W =>
        have := m3 W rfl
        unfold apM
        dsimp only
        rw [if_neg (by rw [mny_len, lT]; omega)]
    have en2 : apM o (mny (kyT (sg V I) (if M = 1 then w else []))) = none := by
      cases o with
      | none => rfl
      | some W =>
        have := m3 W rfl
        unfold apM
        dsimp only
        rw [if_neg (by rw [mny_len, ky_len (by omega), lT]; omega)]
    rw [en2]
    rw [en] at q1
    exact q1
  have fin : ∀ (q : List Int), ((apM o (mny (sg V I))).map fun W => W.set m0 (wQ (W.getD m0 nd0) q)) = apM o (mny (kyT (sg V I) q)) := by
    intro q
    rw [mny_ky tI]
    cases o with
    | none => rfl
    | some W =>
      have e := m3 W rfl
      subst e
      have l1 : (wQ (wZ ((sg V I).getD 0 nd0) (kd (sg V I)).length) q :: (mny (sg V I)).tail).length = (mny (sg V I)).length := by
        rw [List.length_cons, List.length_tail, mny_len, lT]
        omega
      unfold apM
      dsimp only
      rw [l1]
      by_cases c : W.length + (mny (sg V I)).length ≤ 100
      · rw [if_pos c, if_pos c]
        dsimp only [Option.map]
        rw [mr, getD_append, if_neg (Nat.lt_irrefl _), List.set_append_right _ _ (Nat.le_refl _), Nat.sub_self]
        rfl
      · rw [if_neg c, if_neg c]
        rfl
  refine ev_gc (q_noKeyM (d := d - 1) (K := K) (I := m0) (by omega) rfl hK rfl m1 q1) (fun _ S2 q2 => ?_)
  obtain ⟨q2, f2⟩ := q2
  have f2' : FC (doP K) S S2 := fc_tr f1 (fc_mono f2 (fun c j z => Or.inl ⟨z.1, by omega, by omega⟩))
  refine ev_gg (by first | omega | (constructor <;> omega)) ?_
  refine ev_ite (fun z2 => ?_) (fun z2 => ?_)
  · refine ev_ret ⟨?_, f2'⟩
    rw [if_neg (by omega), ← fin]
    exact q2
  obtain ⟨w1, w2⟩ := hw (by omega)
  refine ev_gc (q_keyIs (d := d - 1) (K := K) (I := m0) (w := w) (by omega) rfl hK rfl m1 (wd_fr w1 f2' (by omega) (fun j => by omega)) w2 q2) (fun _ S3 q3 => ?_)
  obtain ⟨q3, f3⟩ := q3
  refine ev_ret ⟨?_, fc_tr f2' (fc_mono f3 (fun c j z => Or.inl ⟨z.1, by omega, by omega⟩))⟩
  rw [if_pos (by omega), ← fin]
  have e3 : ((apM o (mny (sg V I))).map fun W => W.set m0 (wQ (W.getD m0 nd0) [])).map (fun W => W.set m0 (wQ (W.getD m0 nd0) w)) = ((apM o (mny (sg V I))).map fun W => W.set m0 (wQ (W.getD m0 nd0) w)) := by
    cases ea : apM o (mny (sg V I)) with
    | none => rfl
    | some W =>
      dsimp only [Option.map]
      by_cases c : m0 < W.length
      · rw [getD_set_s c, List.set_set]
        rfl
      · have e9 : ∀ y : ND, W.set m0 y = W := fun y => List.set_eq_of_length_le (by omega)
        simp only [e9]
  rw [e3] at q3
  exact q3
/-- a document is another one's, cell by cell -/
theorem lk_cp {S1 : GS} {F : Nat} (h : LK S F V) (h1 : S1.1 502 K = (V.length : Int)) (hc : ∀ j, j < 61 * V.length → S1.1 501 (6161 * K + j) = S.1 501 (6161 * F + j)) : LK S1 K V := by
  obtain ⟨e1, e2, e3, e4⟩ := h
  refine ⟨h1, e2, fun i hi => ?_, e4⟩
  obtain ⟨a1, a2, a3, a4, a5⟩ := e3 i hi
  have nr := e4 _ (nd_mem hi)
  have ce : ∀ w, w < 61 → S1.1 501 (6161 * K + 61 * i + w) = S.1 501 (6161 * F + 61 * i + w) := fun w hw => by
    have := hc (61 * i + w) (by omega)
    rw [← Nat.add_assoc, ← Nat.add_assoc] at this
    exact this
  exact ⟨cr_cp a1 ⟨nr.2.2.2.2.2.2.1, nr.2.2.2.2.2.2.2.2.1⟩ (fun w hw _ => ce w hw), (ce 1 (by omega)).trans a2, (ce 2 (by omega)).trans a3, (ce 3 (by omega)).trans a4, (ce 4 (by omega)).trans a5⟩
theorem mr_cp {S1 : GS} {F : Nat} {W : List ND} (h : MR S F W) (h1 : S1.1 502 K = (W.length : Int)) (hc : ∀ j, j < 61 * W.length → S1.1 501 (6161 * K + j) = S.1 501 (6161 * F + j)) : MR S1 K W := by
  obtain ⟨e1, e2, e3, e4⟩ := h
  refine ⟨h1, e2, fun i hi => ?_, e4⟩
  have nw := e4 _ (nd_mem hi)
  have ce : ∀ w, w < 61 → S1.1 501 (6161 * K + 61 * i + w) = S.1 501 (6161 * F + 61 * i + w) := fun w hw => by
    have := hc (61 * i + w) (by omega)
    rw [← Nat.add_assoc, ← Nat.add_assoc] at this
    exact this
  exact ⟨cr_cp (e3 i hi).1 ⟨nw.2.2.1.1, nw.2.2.2.1.1⟩ (fun w hw _ => ce w hw), (ce 3 (by omega)).trans (e3 i hi).2⟩
theorem q_keeps {k : Int} {D m : Nat} (hd : 1 ≤ d) (hk : k = (K : Int)) (hK : K < 48) (hD : S.1 500 1 = (D : Int)) (hl : D < 40) (hne : K ≠ D) (hn : S.1 502 K = (m : Int)) (hm : m ≤ 101) : Ev (fun n => f_X12_keeps n d 0 S [k]) (fun x S1 => x = (D : Int) ∧ S1.1 500 1 = (D : Int) + 1 ∧ S1.1 502 D = (m : Int) ∧ (∀ j, j < 61 * m → S1.1 501 (6161 * D + j) = S.1 501 (6161 * K + j)) ∧ FC (fun c j => (c = 501 ∧ 6161 * D ≤ j ∧ j < 6161 * D + 6161) ∨ (c = 502 ∧ j = D) ∨ (c = 500 ∧ j = 1)) S S1) := by
  subst hk
  have lp : ∀ (t u : Nat) (S1 : GS), u + t = 61 * m → S1.1 502 D = (m : Int) → (∀ j, j < u → S1.1 501 (6161 * D + j) = S.1 501 (6161 * K + j)) → FC (fun c j => (c = 501 ∧ 6161 * D ≤ j ∧ j < 6161 * D + 6161) ∨ (c = 502 ∧ j = D)) S S1 → Ev (fun n => f_X12_keeps n d 17 S1 [(K : Int), (u : Int)]) (fun x S1 => x = (D : Int) ∧ S1.1 500 1 = (D : Int) + 1 ∧ S1.1 502 D = (m : Int) ∧ (∀ j, j < 61 * m → S1.1 501 (6161 * D + j) = S.1 501 (6161 * K + j)) ∧ FC (fun c j => (c = 501 ∧ 6161 * D ≤ j ∧ j < 6161 * D + 6161) ∨ (c = 502 ∧ j = D) ∨ (c = 500 ∧ j = 1)) S S1) := by
    intro t
    induction t with
    | zero =>
      intro u S1 hu h1 hj hf
      have n1 : S1.1 502 K = (m : Int) := by rw [fc_i hf (by omega)]; exact hn
      have d1 : S1.1 500 1 = (D : Int) := by rw [fc_i hf (by omega)]; exact hD
      refine ev_up (fun n => e_X12_keeps_17) ?_
      unfold b_X12_keeps_17
      refine ev_gg (by first | omega | (constructor <;> omega)) ?_
      refine ev_gv ?_
      refine ev_gv ?_
      rw [Int.toNat_natCast, n1]
      refine ev_gg (by first | omega | (constructor <;> omega)) ?_
      refine ev_gg (by first | omega | (constructor <;> omega)) ?_
      refine ev_ite (fun _ => ?_) (fun z => by omega)
      refine ev_gv ?_
      refine ev_gv ?_
      refine ev_gv ?_
      refine ev_gv ?_
      refine ev_gv ?_
      rw [gI_a, d1]
      refine ev_ret ⟨by omega, gI_a, by rw [gI_c (by decide)]; exact h1, fun j j1 => by rw [gI_c (by decide)]; exact hj j (by omega), fc_tr (fc_mono hf (fun c j z => by omega)) (fc_gI (Or.inr (Or.inr ⟨rfl, rfl⟩)))⟩
    | succ t ih =>
      intro u S1 hu h1 hj hf
      have n1 : S1.1 502 K = (m : Int) := by rw [fc_i hf (by omega)]; exact hn
      have d1 : S1.1 500 1 = (D : Int) := by rw [fc_i hf (by omega)]; exact hD
      refine ev_up (fun n => e_X12_keeps_17) ?_
      unfold b_X12_keeps_17
      refine ev_gg (by first | omega | (constructor <;> omega)) ?_
      refine ev_gv ?_
      refine ev_gv ?_
      rw [Int.toNat_natCast, n1]
      refine ev_gg (by first | omega | (constructor <;> omega)) ?_
      refine ev_gg (by first | omega | (constructor <;> omega)) ?_
      refine ev_ite (fun z => by omega) (fun _ => ?_)
      refine ev_gv ?_
      rw [d1]
      refine ev_gg (by first | omega | (constructor <;> omega)) ?_
      refine ev_gcr (q_at) ?_
      refine ev_gv ?_
      refine ev_gcr (q_at) ?_
      refine ev_gv ?_
      refine ev_gg (by first | omega | (constructor <;> omega)) ?_
      refine ev_gv ?_
      refine ev_gg (by first | omega | (constructor <;> omega)) ?_
      refine ev_gv ?_
      refine ev_gv ?_
      rw [show ((101 * (D : Int) + 0) * 61 + (u : Int)).toNat = 6161 * D + u by omega, show ((101 * (K : Int) + 0) * 61 + (u : Int)).toNat = 6161 * K + u by omega, show (u : Int) + 1 = ((u + 1 : Nat) : Int) by omega]
      refine ih (u + 1) _ (by omega) (by rw [gI_c (by decide)]; exact h1) (fun j j1 => ?_) (fc_tr hf (fc_gI (Or.inl ⟨rfl, by omega, by omega⟩)))
      by_cases c : j = u
      · subst c
        rw [gI_a, fc_i hf (by omega)]
      · rw [gI_k (by omega)]; exact hj j (by omega)
  refine ev_up (fun n => e_X12_keeps_0) ?_
  unfold b_X12_keeps_0
  refine ev_gv ?_
  rw [hD]
  refine ev_gg (by first | omega | (constructor <;> omega)) ?_
  refine ev_gv ?_
  refine ev_gg (by first | omega | (constructor <;> omega)) ?_
  refine ev_gv ?_
  rw [Int.toNat_natCast, Int.toNat_natCast, hn]
  exact lp (61 * m) 0 _ (by omega) gI_a (fun j j1 => by omega) (fc_gI (Or.inr ⟨rfl, rfl⟩))
theorem q_becomes {k f : Int} {F m : Nat} (hd : 1 ≤ d) (hk : k = (K : Int)) (hK : K < 48) (hf : f = (F : Int)) (hF : F < 48) (hne : F ≠ K) (hn : S.1 502 F = (m : Int)) (hm : m ≤ 101) : Ev (fun n => f_X12_becomes n d 0 S [k, f]) (fun _ S1 => S1.1 502 K = (m : Int) ∧ (∀ j, j < 61 * m → S1.1 501 (6161 * K + j) = S.1 501 (6161 * F + j)) ∧ FC (fun c j => (c = 501 ∧ 6161 * K ≤ j ∧ j < 6161 * K + 6161) ∨ (c = 502 ∧ j = K)) S S1) := by
  subst hk hf
  have lp : ∀ (t u : Nat) (S1 : GS), u + t = 61 * m → S1.1 502 K = (m : Int) → (∀ j, j < u → S1.1 501 (6161 * K + j) = S.1 501 (6161 * F + j)) → FC (fun c j => (c = 501 ∧ 6161 * K ≤ j ∧ j < 6161 * K + 6161) ∨ (c = 502 ∧ j = K)) S S1 → Ev (fun n => f_X12_becomes n d 14 S1 [(K : Int), (F : Int), (u : Int)]) (fun _ S1 => S1.1 502 K = (m : Int) ∧ (∀ j, j < 61 * m → S1.1 501 (6161 * K + j) = S.1 501 (6161 * F + j)) ∧ FC (fun c j => (c = 501 ∧ 6161 * K ≤ j ∧ j < 6161 * K + 6161) ∨ (c = 502 ∧ j = K)) S S1) := by
    intro t
    induction t with
    | zero =>
      intro u S1 hu h1 hj hf
      have n1 : S1.1 502 F = (m : Int) := by rw [fc_i hf (by omega)]; exact hn
      refine ev_up (fun n => e_X12_becomes_14) ?_
      unfold b_X12_becomes_14
      refine ev_gg (by first | omega | (constructor <;> omega)) ?_
      refine ev_gv ?_
      refine ev_gv ?_
      rw [Int.toNat_natCast, n1]
      refine ev_gg (by first | omega | (constructor <;> omega)) ?_
      refine ev_gg (by first | omega | (constructor <;> omega)) ?_
      refine ev_ite (fun _ => ?_) (fun z => by omega)
      refine ev_ret ⟨h1, fun j j1 => hj j (by omega), hf⟩
    | succ t ih =>
      intro u S1 hu h1 hj hf
      have n1 : S1.1 502 F = (m : Int) := by rw [fc_i hf (by omega)]; exact hn
      refine ev_up (fun n => e_X12_becomes_14) ?_
      unfold b_X12_becomes_14
      refine ev_gg (by first | omega | (constructor <;> omega)) ?_
      refine ev_gv ?_
      refine ev_gv ?_
      rw [Int.toNat_natCast, n1]
      refine ev_gg (by first | omega | (constructor <;> omega)) ?_
      refine ev_gg (by first | omega | (constructor <;> omega)) ?_
      refine ev_ite (fun z => by omega) (fun _ => ?_)
      refine ev_gg (by first | omega | (constructor <;> omega)) ?_
      refine ev_gcr (q_at) ?_
      refine ev_gv ?_
      refine ev_gcr (q_at) ?_
      refine ev_gv ?_
      refine ev_gg (by first | omega | (constructor <;> omega)) ?_
      refine ev_gv ?_
      refine ev_gg (by first | omega | (constructor <;> omega)) ?_
      refine ev_gv ?_
      refine ev_gv ?_
      rw [show ((101 * (K : Int) + 0) * 61 + (u : Int)).toNat = 6161 * K + u by omega, show ((101 * (F : Int) + 0) * 61 + (u : Int)).toNat = 6161 * F + u by omega, show (u : Int) + 1 = ((u + 1 : Nat) : Int) by omega]
      refine ih (u + 1) _ (by omega) (by rw [gI_c (by decide)]; exact h1) (fun j j1 => ?_) (fc_tr hf (fc_gI (Or.inl ⟨rfl, by omega, by omega⟩)))
      by_cases c : j = u
      · subst c
        rw [gI_a, fc_i hf (by omega)]
      · rw [gI_k (by omega)]; exact hj j (by omega)
  refine ev_up (fun n => e_X12_becomes_0) ?_
  unfold b_X12_becomes_0
  refine ev_gg (by first | omega | (constructor <;> omega)) ?_
  refine ev_gv ?_
  refine ev_gg (by first | omega | (constructor <;> omega)) ?_
  refine ev_gv ?_
  rw [Int.toNat_natCast, Int.toNat_natCast, hn]
  exact lp (61 * m) 0 _ (by omega) gI_a (fun j j1 => by omega) (fc_gI (Or.inr ⟨rfl, rfl⟩))
/-- how many steps lead up from a node to another one, and 1 -/
def upN (V : List ND) (i : Nat) : Nat → Nat → Int
  | 0, _ => 1
  | f + 1, k => if k = i then 1 else upN V i f (owI V k).toNat + 1
def dpM (V : List ND) (i : Nat) : Nat → Nat → Int → Int
  | 0, _, m => m
  | t + 1, k, m => dpM V i t (k + 1) (if 4 ≤ nk V k ∧ m < upN V i 100 k then upN V i 100 k else m)
theorem upN_st {i : Nat} (hV : TR V ∧ PZL V) : ∀ (f g k : Nat), k < V.length → i ≤ k → k < i + nz V i → k - i ≤ f → k - i ≤ g → upN V i f k = upN V i g k
  | 0, g, k, hk, h1, h2, h3, h4 => by
    have : k = i := by omega
    subst this
    cases g with
    | zero => rfl
    | succ g => unfold upN; rw [if_pos rfl]
  | f + 1, 0, k, hk, h1, h2, h3, h4 => by
    have : k = i := by omega
    subst this
    unfold upN
    rw [if_pos rfl]
  | f + 1, g + 1, k, hk, h1, h2, h3, h4 => by
    unfold upN
    by_cases c : k = i
    · rw [if_pos c, if_pos c]
    · rw [if_neg c, if_neg c]
      obtain ⟨o, o1, o2, o3, o4, o5⟩ := own_kid hV (i := k) (by omega) hk
      rw [o1, Int.toNat_natCast]
      have oi : i ≤ o := by
        by_cases z : i ≤ o
        · exact z
        · have := mem_kids (pz_l hV.2) o4
          obtain ⟨K1, K2, e⟩ := List.append_of_mem o4
          have := ks_ahead hV.1.1 (pz_l hV.2) K1 (o + 1) e i (by omega) (by omega)
          omega
      rw [upN_st hV f g o (by omega) oi (by omega) (by omega) (by omega)]
theorem upN_le {i : Nat} (hV : TR V ∧ PZL V) : ∀ (f k : Nat), k < V.length → i ≤ k → k < i + nz V i → k - i ≤ f → 1 ≤ upN V i f k ∧ upN V i f k ≤ (k - i : Nat) + 1
  | 0, k, hk, h1, h2, h3 => by unfold upN; omega
  | f + 1, k, hk, h1, h2, h3 => by
    unfold upN
    by_cases c : k = i
    · rw [if_pos c]; omega
    · rw [if_neg c]
      obtain ⟨o, o1, o2, o3, o4, o5⟩ := own_kid hV (i := k) (by omega) hk
      rw [o1, Int.toNat_natCast]
      have oi : i ≤ o := by
        by_cases z : i ≤ o
        · exact z
        · obtain ⟨K1, K2, e⟩ := List.append_of_mem o4
          have := ks_ahead hV.1.1 (pz_l hV.2) K1 (o + 1) e i (by omega) (by omega)
          omega
      have := upN_le hV f o (by omega) oi (by omega) (by omega)
      omega
theorem q_deepOf {k i : Int} {I : Nat} (hd : 3 ≤ d) (hk : k = (K : Int)) (hK : K < 48) (hi : i = (I : Int)) (h : LK S K V) (hV : TR V ∧ PZL V) (hI : I < V.length) : Rd (fun n => f_X12_deepOf n d 0 S [k, i]) (dpM V I (nz V I) I 0) S := by
  subst hk hi
  have l := h.2.1
  have wi := hV.1.1.1 I hI
  have inn : ∀ (f p : Nat) (a b : Int) (c : Nat) (Q : Int → GS → Prop), p < V.length → I ≤ p → p < I + nz V I → p - I ≤ f → 1 ≤ a → a + f ≤ 200 → (∀ x, x = a + upN V I f p - 1 → Ev (fun n => f_X12_deepOf n d 23 S [(K : Int), (I : Int), b, (c : Int), x, (I : Int)]) Q) → Ev (fun n => f_X12_deepOf n d 23 S [(K : Int), (I : Int), b, (c : Int), a, (p : Int)]) Q := by
    intro f
    induction f with
    | zero =>
      intro p a b c Q p1 p2 p3 p4 a1 a2 nx
      have : p = I := by omega
      subst this
      exact nx a (by unfold upN; omega)
    | succ f ih =>
      intro p a b c Q p1 p2 p3 p4 a1 a2 nx
      by_cases e : p = I
      · subst e
        exact nx a (by unfold upN; rw [if_pos rfl]; omega)
      · obtain ⟨o, o1, o2, o3, o4, o5⟩ := own_kid hV (i := p) (by omega) p1
        have oi : I ≤ o := by
          by_cases z : I ≤ o
          · exact z
          · obtain ⟨K1, K2, e⟩ := List.append_of_mem o4
            have := ks_ahead hV.1.1 (pz_l hV.2) K1 (o + 1) e I (by omega) (by omega)
            omega
        refine ev_up (fun n => e_X12_deepOf_23) ?_
        unfold b_X12_deepOf_23
        refine ev_gg (by first | omega | (constructor <;> omega)) ?_
        refine ev_gg (by first | omega | (constructor <;> omega)) ?_
        refine ev_ite (fun z => by omega) (fun _ => ?_)
        refine ev_gv ?_
        refine ev_gg (by first | omega | (constructor <;> omega)) ?_
        refine ev_gcr (q_parentL (d := d - 1) (K := K) (I := p) (by omega) rfl hK rfl h p1) ?_
        rw [o1]
        refine ih o (a + 1) b c Q (by omega) oi (by omega) (by omega) (by omega) (by omega) (fun x hx => nx x ?_)
        unfold upN
        rw [if_neg e, o1, Int.toNat_natCast]
        omega
  have lp : ∀ (t p : Nat) (m : Int), p + t = I + nz V I → I ≤ p → 0 ≤ m → m ≤ 200 → Rd (fun n => f_X12_deepOf n d 5 S [(K : Int), (I : Int), m, (p : Int)]) (dpM V I t p m) S := by
    intro t
    induction t with
    | zero =>
      intro p m p1 p2 m1 m2
      refine ev_up (fun n => e_X12_deepOf_5) ?_
      unfold b_X12_deepOf_5
      refine ev_gg (by first | omega | (constructor <;> omega)) ?_
      refine ev_gcr (q_endL (d := d - 1) (K := K) (I := I) (by omega) rfl hK rfl h hI) ?_
      refine ev_gg (by first | omega | (constructor <;> omega)) ?_
      refine ev_gg (by first | omega | (constructor <;> omega)) ?_
      refine ev_ite (fun _ => ?_) (fun z => by omega)
      exact ev_ret ⟨rfl, rfl⟩
    | succ t ih =>
      intro p m p1 p2 m1 m2
      have ul := upN_le hV (i := I) 100 p (by omega) p2 (by omega) (by omega)
      refine ev_up (fun n => e_X12_deepOf_5) ?_
      unfold b_X12_deepOf_5
      refine ev_gg (by first | omega | (constructor <;> omega)) ?_
      refine ev_gcr (q_endL (d := d - 1) (K := K) (I := I) (by omega) rfl hK rfl h hI) ?_
      refine ev_gg (by first | omega | (constructor <;> omega)) ?_
      refine ev_gg (by first | omega | (constructor <;> omega)) ?_
      refine ev_ite (fun z => by omega) (fun _ => ?_)
      refine inn 100 p 1 m p _ (by omega) p2 (by omega) (by omega) (by omega) (by omega) (fun x hx => ?_)
      have ex : x = upN V I 100 p := by omega
      subst ex
      have nr := h.2.2.2 _ (nd_mem (show p < V.length by omega))
      have kr : 0 ≤ nk V p ∧ nk V p ≤ 5 := ⟨nr.1, nr.2.1⟩
      refine ev_up (fun n => e_X12_deepOf_23) ?_
      unfold b_X12_deepOf_23
      refine ev_gg (by first | omega | (constructor <;> omega)) ?_
      refine ev_gg (by first | omega | (constructor <;> omega)) ?_
      refine ev_ite (fun _ => ?_) (fun z => by omega)
      refine ev_gg (by first | omega | (constructor <;> omega)) ?_
      refine ev_gcr (q_kindL (d := d - 1) (K := K) (I := p) (by omega) rfl hK rfl h (by omega)) ?_
      refine ev_gg (by first | omega | (constructor <;> omega)) ?_
      unfold dpM
      refine ev_ite (fun z => ?_) (fun z => ?_)
      · refine ev_gv ?_
        rw [if_neg (by omega), show (p : Int) + 1 = ((p + 1 : Nat) : Int) by omega]
        exact ih (p + 1) m (by omega) (by omega) m1 m2
      · refine ev_gg (by first | omega | (constructor <;> omega)) ?_
        refine ev_gg (by first | omega | (constructor <;> omega)) ?_
        refine ev_ite (fun z2 => ?_) (fun z2 => ?_)
        · refine ev_gv ?_
          rw [if_neg (by omega), show (p : Int) + 1 = ((p + 1 : Nat) : Int) by omega]
          exact ih (p + 1) m (by omega) (by omega) m1 m2
        · refine ev_gv ?_
          rw [if_pos (by omega), show (p : Int) + 1 = ((p + 1 : Nat) : Int) by omega]
          exact ih (p + 1) _ (by omega) (by omega) (by omega) (by omega)
  refine ev_up (fun n => e_X12_deepOf_0) ?_
  unfold b_X12_deepOf_0
  exact lp (nz V I) I 0 rfl (Nat.le_refl _) (by decide) (by decide)
end RD1
