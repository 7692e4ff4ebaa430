/-! THE STANDARD asks -/
section WDS
variable {Sc T : List ND} {g : List (Int × Int) → Int → Int → RK → Option RK} {refs : List (Int × Int)} {by_ node : Nat}
theorem wdR_no {w : Nat} {K : RK} (h : vLk Sc (by_ : Int) (sx (30 + w)) = -1) : wdR Sc T g refs by_ node w K = some K := by
  unfold wdR
  rw [if_pos h]
theorem wds_c {m : Nat} {K : RK} : wdsR Sc T g refs by_ node (m + 1) K = match wdR Sc T g refs by_ node (15 - m) K with
    | none => none
    | some K1 => wdsR Sc T g refs by_ node m K1 := rfl
theorem wds_skip : ∀ (m : Nat) (K : RK), (∀ j, j < m → vLk Sc (by_ : Int) (sx (30 + (15 - j))) = -1) → wdsR Sc T g refs by_ node m K = some K
  | 0, K, _ => rfl
  | m + 1, K, h => by
    rw [wds_c, wdR_no (h m (Nat.lt_succ_self m))]
    exact wds_skip m K (fun j hj => h j (by omega))
/-- one WORD is said -/
theorem wds_one {w0 : Nat} (h15 : w0 ≤ 15) (ha : ∀ w, w < 16 → 1 ≤ w → w ≠ w0 → vLk Sc (by_ : Int) (sx (30 + w)) = -1) : ∀ (m : Nat) (K : RK), 16 - w0 ≤ m → m ≤ 15 → wdsR Sc T g refs by_ node m K = wdR Sc T g refs by_ node w0 K
  | 0, K, h1, _ => by omega
  | m + 1, K, h1, h2 => by
    rw [wds_c]
    by_cases c : 15 - m = w0
    · rw [c]
      cases wdR Sc T g refs by_ node w0 K with
      | none => rfl
      | some K1 =>
        exact wds_skip m K1 (fun j hj => ha (15 - j) (by omega) (by omega) (by omega))
    · rw [wdR_no (ha (15 - m) (by omega) (by omega) c)]
      exact wds_one h15 ha m K (by omega) (by omega)
/-- two WORDS are said -/
theorem wds_two {w0 w1 : Nat} (h01 : w0 < w1) (h15 : w1 ≤ 15) (ha : ∀ w, w < 16 → 1 ≤ w → w ≠ w0 → w ≠ w1 → vLk Sc (by_ : Int) (sx (30 + w)) = -1) : ∀ (m : Nat) (K : RK), 16 - w0 ≤ m → m ≤ 15 → wdsR Sc T g refs by_ node m K = match wdR Sc T g refs by_ node w0 K with
    | none => none
    | some K1 => wdR Sc T g refs by_ node w1 K1
  | 0, K, h1, _ => by omega
  | m + 1, K, h1, h2 => by
    rw [wds_c]
    by_cases c : 15 - m = w0
    · rw [c]
      cases wdR Sc T g refs by_ node w0 K with
      | none => rfl
      | some K1 =>
        -- from here on only the other one is said
        have e : ∀ (m2 : Nat) (K : RK), 16 - w1 ≤ m2 → m2 ≤ m → wdsR Sc T g refs by_ node m2 K = wdR Sc T g refs by_ node w1 K := by
          intro m2
          induction m2 with
          | zero => intro K z1 z2; omega
          | succ m2 ih =>
            intro K z1 z2
            rw [wds_c]
            by_cases c2 : 15 - m2 = w1
            · rw [c2]
              cases wdR Sc T g refs by_ node w1 K with
              | none => rfl
              | some K2 =>
                exact wds_skip m2 K2 (fun j hj => ha (15 - j) (by omega) (by omega) (by omega) (by omega))
            · rw [wdR_no (ha (15 - m2) (by omega) (by omega) (by omega) c2)]
              exact ih K (by omega) (by omega)
        exact e m K1 (by omega) (Nat.le_refl m)
    · rw [wdR_no (ha (15 - m) (by omega) (by omega) c (by omega))]
      exact wds_two h01 h15 ha m K (by omega) (by omega)
theorem wdR_pl {w said : Nat} {K : RK} (h : vLk Sc (by_ : Int) (sx (30 + w)) = (said : Int)) (hw : w ≤ 6 ∨ w = 10) : wdR Sc T g refs by_ node w K = some (K.1, K.2 ++ plR Sc T w said node) := by
  unfold wdR
  rw [if_neg (by omega), if_pos hw, h, Int.toNat_natCast]
theorem wdR_as {w said : Nat} {K : RK} (h : vLk Sc (by_ : Int) (sx (30 + w)) = (said : Int)) (hw : ¬ (w ≤ 6 ∨ w = 10)) : wdR Sc T g refs by_ node w K = match lqR (fun sub nd K => g (if w = 15 then refs ++ [(sub, (node : Int))] else refs) sub nd K) (decide (12 ≤ w ∧ w ≤ 14)) (qsL Sc T refs w by_ said node) 0 K with
    | none => none
    | some r => some (r.2.1, r.2.2 ++ if hsB w 0 r.1 (decide (w = 15 ∧ tgF Sc refs said node = -2)) = true then [] else [((node : Int), (w : Int))]) := by
  unfold wdR
  rw [if_neg (by omega), if_neg hw, h, Int.toNat_natCast]
  rfl
theorem ask_map {P : Int} {f : Nat} {n : Int} {cs : List (Int × Int)} (hb : by_ < Sc.length) (h5 : nk Sc by_ = 5) (hP : n + 1 ≤ P) : askR Sc T P (f + 1) refs (by_ : Int) (node : Int) (n, cs) = wdsR Sc T (askR Sc T P f) refs by_ node 15 (n + 1, cs) := by
  have e : askR Sc T P (f + 1) refs (by_ : Int) (node : Int) (n, cs) = if P < n + 1 then none else if kdI Sc (by_ : Int) = 5 then wdsR Sc T (askR Sc T P f) refs by_ node 15 (n + 1, cs) else if kdI Sc (by_ : Int) = 1 ∧ np Sc by_ = 1 then some (n + 1, cs) else some (n + 1, cs ++ [((node : Int), 0)]) := rfl
  rw [e, if_neg (by omega), if_pos (by rw [kdI_n hb]; exact h5)]
/-- what is asked comes to an end, if each does -/
def cstL (c : Int × Int → Nat) : List (Int × Int) → Nat
  | [] => 0
  | x :: L => c x + cstL c L
theorem lq_tot {P : Int} {g1 : Int → Int → RK → Option RK} {cut : Bool} {c : Int × Int → Nat} : ∀ (L : List (Int × Int)), (∀ x ∈ L, x.1 ≠ -1 → ∀ n cs, n + c x ≤ P → ∃ n1 cs1, g1 x.1 x.2 (n, cs) = some (n1, cs1) ∧ n1 ≤ n + c x) → ∀ (a n : Int) (cs : List (Int × Int)), n + cstL c L ≤ P → ∃ a1 n1 cs1, lqR g1 cut L a (n, cs) = some (a1, (n1, cs1)) ∧ n1 ≤ n + cstL c L
  | [], _, a, n, cs, _ => ⟨a, n, cs, rfl, by show n ≤ n + ((0 : Nat) : Int); omega⟩
  | (sub, nd) :: L, h, a, n, cs, hP => by
    have eR : lqR g1 cut ((sub, nd) :: L) a (n, cs) = if sub = -1 then lqR g1 cut L a (n, cs) else match g1 sub nd (n, cs) with
      | none => none
      | some K1 => if cut = true then lqR g1 cut L (a + if K1.2.length = cs.length then 1 else 0) (K1.1, cs) else lqR g1 cut L a K1 := rfl
    have ec : cstL c ((sub, nd) :: L) = c (sub, nd) + cstL c L := rfl
    rw [ec] at hP ⊢
    have hL : ∀ x ∈ L, x.1 ≠ -1 → ∀ n cs, n + c x ≤ P → ∃ n1 cs1, g1 x.1 x.2 (n, cs) = some (n1, cs1) ∧ n1 ≤ n + c x := fun x hx => h x (List.mem_cons_of_mem _ hx)
    rw [eR]
    by_cases z : sub = -1
    · rw [if_pos z]
      obtain ⟨a1, n1, cs1, q1, q2⟩ := lq_tot (P := P) (cut := cut) L hL a n cs (by omega)
      exact ⟨a1, n1, cs1, q1, by omega⟩
    · rw [if_neg z]
      obtain ⟨n1, cs1, q1, q2⟩ := h (sub, nd) List.mem_cons_self z n cs (by omega)
      have q1' : g1 sub nd (n, cs) = some (n1, cs1) := q1
      rw [q1']
      cases cut with
      | true =>
        obtain ⟨a2, n2, cs2, q3, q4⟩ := lq_tot (P := P) (cut := true) L hL (a + if cs1.length = cs.length then 1 else 0) n1 cs (by omega)
        exact ⟨a2, n2, cs2, q3, by omega⟩
      | false =>
        obtain ⟨a2, n2, cs2, q3, q4⟩ := lq_tot (P := P) (cut := false) L hL a n1 cs1 (by omega)
        exact ⟨a2, n2, cs2, q3, by omega⟩
theorem cst_map {c : Int × Int → Nat} {f : Nat → Int × Int} {h : Nat → Nat} : ∀ (K : List Nat), (∀ k ∈ K, c (f k) ≤ h k) → cstL c (K.map f) ≤ suF h K
  | [], _ => Nat.le_refl _
  | k :: K, hk => by
    have := cst_map (c := c) (f := f) (h := h) K (fun x hx => hk x (List.mem_cons_of_mem _ hx))
    have := hk k List.mem_cons_self
    show c (f k) + cstL c (K.map f) ≤ h k + suF h K
    omega
/-- what complains of nothing: none of it does -/
abbrev exG (g1 : Int → Int → RK → Option RK) : Prop := ∀ sub nd K K1, g1 sub nd K = some K1 → ∃ es, K1.2 = K.2 ++ es
theorem lq_yes {g1 : Int → Int → RK → Option RK} (hg : exG g1) : ∀ (L : List (Int × Int)) (a n a1 n1 : Int) (cs cs1 : List (Int × Int)), lqR g1 false L a (n, cs) = some (a1, (n1, cs1)) → (∃ es, cs1 = cs ++ es) ∧ (cs1 = cs → ∀ x ∈ L, x.1 ≠ -1 → ∃ n2 n3, g1 x.1 x.2 (n2, cs) = some (n3, cs))
  | [], a, n, a1, n1, cs, cs1, h => by
    cases h
    exact ⟨⟨[], (List.append_nil _).symm⟩, fun _ x hx => by cases hx⟩
  | (sub, nd) :: L, a, n, a1, n1, cs, cs1, h => by
    have eR : lqR g1 false ((sub, nd) :: L) a (n, cs) = if sub = -1 then lqR g1 false L a (n, cs) else match g1 sub nd (n, cs) with
      | none => none
      | some K1 => lqR g1 false L a K1 := rfl
    rw [eR] at h
    by_cases z : sub = -1
    · rw [if_pos z] at h
      obtain ⟨q1, q2⟩ := lq_yes hg L a n a1 n1 cs cs1 h
      refine ⟨q1, fun e x hx hne => ?_⟩
      rcases List.mem_cons.mp hx with y | y
      · rw [y] at hne
        exact absurd z hne
      · exact q2 e x y hne
    · rw [if_neg z] at h
      cases e1 : g1 sub nd (n, cs) with
      | none => rw [e1] at h; cases h
      | some K1 =>
        rw [e1] at h
        obtain ⟨es, he⟩ := hg _ _ _ _ e1
        obtain ⟨n2, cs2⟩ := K1
        have he' : cs2 = cs ++ es := he
        subst he'
        have h' : lqR g1 false L a (n2, cs ++ es) = some (a1, (n1, cs1)) := h
        obtain ⟨⟨es2, q1⟩, q2⟩ := lq_yes hg L a n2 a1 n1 _ _ h'
        refine ⟨⟨es ++ es2, by rw [q1, List.append_assoc]⟩, fun e x hx hne => ?_⟩
        have e0 : es = [] ∧ es2 = [] := by
          rw [e, List.append_assoc] at q1
          have := List.append_cancel_left (as := cs) (bs := []) (cs := es ++ es2) (by rw [List.append_nil]; exact q1)
          exact List.append_eq_nil_iff.mp this.symm
        rw [e0.1, List.append_nil] at q2 e1
        rcases List.mem_cons.mp hx with y | y
        · rw [y]
          exact ⟨n, n2, e1⟩
        · exact q2 e x y hne
theorem lq_some {g1 : Int → Int → RK → Option RK} (hg : exG g1) : ∀ (L : List (Int × Int)) (a n a1 n1 : Int) (cs cs1 : List (Int × Int)), lqR g1 true L a (n, cs) = some (a1, (n1, cs1)) → cs1 = cs ∧ (a < a1 → ∃ x ∈ L, x.1 ≠ -1 ∧ ∃ n2 n3, g1 x.1 x.2 (n2, cs) = some (n3, cs))
  | [], a, n, a1, n1, cs, cs1, h => by
    cases h
    exact ⟨rfl, fun z => by omega⟩
  | (sub, nd) :: L, a, n, a1, n1, cs, cs1, h => by
    have eR : lqR g1 true ((sub, nd) :: L) a (n, cs) = if sub = -1 then lqR g1 true L a (n, cs) else match g1 sub nd (n, cs) with
      | none => none
      | some K1 => lqR g1 true L (a + if K1.2.length = cs.length then 1 else 0) (K1.1, cs) := rfl
    rw [eR] at h
    by_cases z : sub = -1
    · rw [if_pos z] at h
      obtain ⟨q1, q2⟩ := lq_some hg L a n a1 n1 cs cs1 h
      refine ⟨q1, fun e => ?_⟩
      obtain ⟨x, hx, y⟩ := q2 e
      exact ⟨x, List.mem_cons_of_mem _ hx, y⟩
    · rw [if_neg z] at h
      cases e1 : g1 sub nd (n, cs) with
      | none => rw [e1] at h; cases h
      | some K1 =>
        rw [e1] at h
        obtain ⟨es, he⟩ := hg _ _ _ _ e1
        obtain ⟨n2, cs2⟩ := K1
        have he' : cs2 = cs ++ es := he
        subst he'
        have h' : lqR g1 true L (a + if (cs ++ es).length = cs.length then 1 else 0) (n2, cs) = some (a1, (n1, cs1)) := h
        obtain ⟨q1, q2⟩ := lq_some hg L _ n2 a1 n1 _ _ h'
        refine ⟨q1, fun e => ?_⟩
        by_cases y : (cs ++ es).length = cs.length
        · have e0 : es = [] := List.length_eq_zero_iff.mp (by rw [List.length_append] at y; omega)
          rw [e0, List.append_nil] at e1
          exact ⟨(sub, nd), List.mem_cons_self, z, n, n2, e1⟩
        · rw [if_neg y] at q2
          obtain ⟨x, hx, w⟩ := q2 (by omega)
          exact ⟨x, List.mem_cons_of_mem _ hx, w⟩
end WDS
