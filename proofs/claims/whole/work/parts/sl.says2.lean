/-! THE REFERENCE asks: a WORD that asks nothing -/
section SA2
variable {S : GS} {d A B : Nat} {Sc T : List ND} {cs : List (Int × Int)}
theorem q_says3 {w said node : Nat} (hd : 12 ≤ d) (hk : AbK A B Sc T) (h : AbS A B Sc T S) (hc : CsQ cs S) (hl : cs.length + (if w = 6 then (kids Sc said).length else 1) ≤ 219000) (hs : said < Sc.length) (hn : node < T.length) (hw : 1 ≤ w ∧ (w ≤ 6 ∨ w = 10)) (ho : okWd Sc w said) : Ev (fun n => f_X12_says_ n d 0 S [(w : Int), (said : Int), (node : Int)]) (fun _ S1 => CsQ (cs ++ plR Sc T w said node) S1 ∧ FC syP S S1) := by
  obtain ⟨⟨⟨kA, kA4⟩, ⟨kB, kB4⟩⟩, ⟨sS, dS⟩, sT, dT⟩ := id hk
  have lS := h.2.1.2.1
  have lT := h.2.2.2.1
  have nr := h.2.2.2.2.2 _ (nd_mem hn)
  have nr1 : 0 ≤ nk T node ∧ nk T node ≤ 5 := ⟨nr.1, nr.2.1⟩
  have klS := kids_100 sS.1.1.1 (pz_l sS.1.2) lS hs
  have klT := kids_100 sT.1.1.1 (pz_l sT.1.2) lT hn
  -- the end of a WORD that complains once at most
  have fin : ∀ (s : Int) (S1 : GS) (pc : Nat) (xs : List Int), w ≠ 6 → (s = (if plB Sc T w said node = true then 1 else 0)) → FC syP S S1 → CsQ cs S1 → (∀ Q : Int → GS → Prop, (plB Sc T w said node = true → Q 0 S1) → (¬ plB Sc T w said node = true → Ev (fun n => gc (f_X12_complains n (d - 1) 0 S1 [(node : Int), (w : Int)]) fun x5 S_6 => some (0, S_6)) Q) → Ev (fun n => f_X12_says_ n d pc S1 xs) Q) → Ev (fun n => f_X12_says_ n d pc S1 xs) (fun _ S1 => CsQ (cs ++ plR Sc T w said node) S1 ∧ FC syP S S1) := by
    intro s S1 pc xs w6 hs1 f1 c1 go
    have ep : plR Sc T w said node = if plB Sc T w said node = true then [] else [((node : Int), (w : Int))] := by
      unfold plR
      rw [if_neg w6]
    rw [ep]
    refine go _ (fun y => ?_) (fun y => ?_)
    · rw [if_pos y, List.append_nil]
      exact ⟨c1, f1⟩
    · rw [if_neg y]
      refine ev_gc (q_complains (d := d - 1) (a := (node : Int)) (w := (w : Int)) c1 (by omega) ⟨⟨by omega, by omega⟩, by omega, by omega⟩) (fun _ S2 q2 => ?_)
      exact ev_ret ⟨q2.1, fc_tr f1 (fc_mono q2.2 (fun c j z => Or.inr (Or.inr (Or.inr (Or.inr z)))))⟩
  have cs1 : ∀ {P : Nat → Nat → Prop} {S0 S1 : GS}, CsQ cs S0 → FC P S0 S1 → (∀ c j, P c j → doP 40 c j ∨ wdP c j ∨ eqP c j ∨ c = 510) → CsQ cs S1 := fun c0 f hP => cs_fr c0 f (fun z => by have := hP _ _ z; omega) (fun j z => by have := hP _ _ z; omega)
  have ab1 : ∀ {P : Nat → Nat → Prop} {S0 S1 : GS}, AbS A B Sc T S0 → FC P S0 S1 → (∀ c j, P c j → doP 40 c j ∨ wdP c j ∨ eqP c j ∨ c = 510) → AbS A B Sc T S1 := fun a0 f hP => ab_fr hk a0 f (fun c j z => (hP c j z).elim Or.inl (fun y => y.elim (fun y => Or.inr (Or.inl y)) (fun y => y.elim (fun y => Or.inr (Or.inr (Or.inl y))) (fun y => Or.inr (Or.inr (Or.inr (Or.inl y)))))))
  have m62 : w = 1 → ∀ (u i : Nat) (s : Int) (S1 : GS), i + u = (kids Sc said).length → s = (if okK Sc T node said = true ∨ ∃ x ∈ (kids Sc said).take i, okK Sc T node x = true then 1 else 0) → FC wdP S S1 → Ev (fun n => f_X12_says_ n d 62 S1 [(w : Int), (said : Int), (node : Int), s, (i : Int)]) (fun _ S1 => CsQ (cs ++ plR Sc T w said node) S1 ∧ FC syP S S1) := by
    intro w1 u
    induction u with
    | zero =>
      intro i s S1 hiu hs1 f1
      rw [List.take_of_length_le (by omega)] at hs1
      have a1 := ab1 h f1 (fun c j z => Or.inr (Or.inl z))
      have c1 := cs1 hc f1 (fun c j z => Or.inr (Or.inl z))
      have ep : (okK Sc T node said = true ∨ ∃ x ∈ kids Sc said, okK Sc T node x = true) ↔ plB Sc T w said node = true := by
        unfold plB
        rw [if_pos w1, Bool.or_eq_true, List.any_eq_true]
      refine fin s S1 62 _ (by omega) (by rw [hs1]; simp only [ep]) (fc_mono f1 (fun c j z => Or.inr (Or.inl z))) c1 (fun Q y1 y2 => ?_)
      simp only [ep] at hs1
      refine ev_up (fun n => e_X12_says__62) ?_
      unfold b_X12_says__62
      refine ev_gv ?_
      rw [a1.1.1]
      refine ev_gg (by first | omega | (constructor <;> omega)) ?_
      refine ev_gcr (q_manyL (d := d - 1) (K := A) (I := said) (V := Sc) (by omega) rfl kA rfl a1.2.1 hs) ?_
      refine ev_gg (by first | omega | (constructor <;> omega)) ?_
      refine ev_gg (by first | omega | (constructor <;> omega)) ?_
      refine ev_ite (fun _ => ?_) (fun z => by omega)
      by_cases y : plB Sc T w said node = true
      · rw [if_pos y] at hs1
        subst hs1
        refine ev_gg (by decide) ?_
        refine ev_ite (fun _ => ?_) (fun z => absurd (by decide) z)
        exact ev_ret (y1 y)
      · rw [if_neg y] at hs1
        subst hs1
        refine ev_gg (by decide) ?_
        refine ev_ite (fun z => absurd rfl z) (fun _ => ?_)
        exact y2 y
    | succ u ih =>
      intro i s S1 hiu hs1 f1
      have il : i < (kids Sc said).length := by omega
      have ka := kid_at sS.1 hs il
      have tk := tk_1 (z := 0) il
      have a1 := ab1 h f1 (fun c j z => Or.inr (Or.inl z))
      have e1 : (i : Int) + 1 = ((i + 1 : Nat) : Int) := by omega
      refine ev_up (fun n => e_X12_says__62) ?_
      unfold b_X12_says__62
      refine ev_gv ?_
      rw [a1.1.1]
      refine ev_gg (by first | omega | (constructor <;> omega)) ?_
      refine ev_gcr (q_manyL (d := d - 1) (K := A) (I := said) (V := Sc) (by omega) rfl kA rfl a1.2.1 hs) ?_
      refine ev_gg (by first | omega | (constructor <;> omega)) ?_
      refine ev_gg (by first | omega | (constructor <;> omega)) ?_
      refine ev_ite (fun z => by omega) (fun _ => ?_)
      by_cases y : okK Sc T node said = true ∨ ∃ x ∈ (kids Sc said).take i, okK Sc T node x = true
      · rw [if_pos y] at hs1
        subst hs1
        refine ev_gg (by decide) ?_
        refine ev_ite (fun _ => ?_) (fun z => absurd (by decide) z)
        refine ev_gv ?_
        rw [e1]
        refine ih (i + 1) 1 S1 (by omega) ?_ f1
        rw [if_pos]
        rcases y with y | ⟨x, hx, y⟩
        · exact Or.inl y
        · exact Or.inr ⟨x, by rw [tk]; exact List.mem_append.mpr (Or.inl hx), y⟩
      · rw [if_neg y] at hs1
        subst hs1
        refine ev_gg (by decide) ?_
        refine ev_ite (fun z => absurd rfl z) (fun _ => ?_)
        refine ev_gv ?_
        rw [a1.1.1]
        refine ev_gcr (q_kidAt (d := d - 1) (K := A) (G := said) (P := i) (V := Sc) (by omega) rfl kA rfl rfl a1.2.1 sS.1 hs il) ?_
        refine ev_gc (q_isKind (d := d - 1) (A := A) (B := B) (Sc := Sc) (T := T) (c := (kids Sc said).getD i 0) (node := node) (by omega) hk a1 ka.1 hn) (fun x S2 q2 => ?_)
        obtain ⟨rfl, f2⟩ := q2
        have f02 := fc_tr f1 f2
        by_cases y2 : okK Sc T node ((kids Sc said).getD i 0) = true
        · rw [if_pos y2]
          refine ev_gg (by decide) ?_
          refine ev_ite (fun z => absurd z (by decide)) (fun _ => ?_)
          refine ev_gv ?_
          rw [e1]
          refine ih (i + 1) 1 S2 (by omega) ?_ f02
          rw [if_pos]
          exact Or.inr ⟨_, by rw [tk]; exact List.mem_append.mpr (Or.inr List.mem_cons_self), y2⟩
        · rw [if_neg y2]
          refine ev_gg (by decide) ?_
          refine ev_ite (fun _ => ?_) (fun z => by omega)
          refine ev_gv ?_
          rw [e1]
          refine ih (i + 1) 0 S2 (by omega) ?_ f02
          rw [if_neg]
          rintro (z | ⟨x, hx, z⟩)
          · exact y (Or.inl z)
          · rw [tk] at hx
            rcases List.mem_append.mp hx with q | q
            · exact y (Or.inr ⟨x, q, z⟩)
            · rw [List.mem_singleton] at q
              rw [q] at z
              exact y2 z
  have m339 : w = 10 → ∀ (u i : Nat) (s : Int) (S1 : GS), i + u = (kids Sc said).length → s = (if ∃ x ∈ (kids Sc said).take i, smJ 13 Sc x T (node : Int) = true then 1 else 0) → FC eqP S S1 → Ev (fun n => f_X12_says_ n d 339 S1 [(w : Int), (said : Int), (node : Int), s, (i : Int)]) (fun _ S1 => CsQ (cs ++ plR Sc T w said node) S1 ∧ FC syP S S1) := by
    intro w1 u
    induction u with
    | zero =>
      intro i s S1 hiu hs1 f1
      rw [List.take_of_length_le (by omega)] at hs1
      have a1 := ab1 h f1 (fun c j z => Or.inr (Or.inr (Or.inl z)))
      have c1 := cs1 hc f1 (fun c j z => Or.inr (Or.inr (Or.inl z)))
      have ep : (∃ x ∈ kids Sc said, smJ 13 Sc x T (node : Int) = true) ↔ plB Sc T w said node = true := by
        unfold plB
        rw [if_neg (by omega), if_neg (by omega), if_neg (by omega), if_neg (by omega), if_neg (by omega), List.any_eq_true]
      refine fin s S1 339 _ (by omega) (by rw [hs1]; simp only [ep]) (fc_mono f1 (fun c j z => Or.inr (Or.inr (Or.inl z)))) c1 (fun Q y1 y2 => ?_)
      simp only [ep] at hs1
      refine ev_up (fun n => e_X12_says__339) ?_
      unfold b_X12_says__339
      refine ev_gv ?_
      rw [a1.1.1]
      refine ev_gg (by first | omega | (constructor <;> omega)) ?_
      refine ev_gcr (q_manyL (d := d - 1) (K := A) (I := said) (V := Sc) (by omega) rfl kA rfl a1.2.1 hs) ?_
      refine ev_gg (by first | omega | (constructor <;> omega)) ?_
      refine ev_gg (by first | omega | (constructor <;> omega)) ?_
      refine ev_ite (fun _ => ?_) (fun z => by omega)
      by_cases y : plB Sc T w said node = true
      · rw [if_pos y] at hs1
        subst hs1
        refine ev_gg (by decide) ?_
        refine ev_ite (fun _ => ?_) (fun z => absurd (by decide) z)
        exact ev_ret (y1 y)
      · rw [if_neg y] at hs1
        subst hs1
        refine ev_gg (by decide) ?_
        refine ev_ite (fun z => absurd rfl z) (fun _ => ?_)
        exact y2 y
    | succ u ih =>
      intro i s S1 hiu hs1 f1
      have il : i < (kids Sc said).length := by omega
      have ka := kid_at sS.1 hs il
      have tk := tk_1 (z := 0) il
      have a1 := ab1 h f1 (fun c j z => Or.inr (Or.inr (Or.inl z)))
      have e1 : (i : Int) + 1 = ((i + 1 : Nat) : Int) := by omega
      refine ev_up (fun n => e_X12_says__339) ?_
      unfold b_X12_says__339
      refine ev_gv ?_
      rw [a1.1.1]
      refine ev_gg (by first | omega | (constructor <;> omega)) ?_
      refine ev_gcr (q_manyL (d := d - 1) (K := A) (I := said) (V := Sc) (by omega) rfl kA rfl a1.2.1 hs) ?_
      refine ev_gg (by first | omega | (constructor <;> omega)) ?_
      refine ev_gg (by first | omega | (constructor <;> omega)) ?_
      refine ev_ite (fun z => by omega) (fun _ => ?_)
      by_cases y : ∃ x ∈ (kids Sc said).take i, smJ 13 Sc x T (node : Int) = true
      · rw [if_pos y] at hs1
        subst hs1
        refine ev_gg (by decide) ?_
        refine ev_ite (fun _ => ?_) (fun z => absurd (by decide) z)
        refine ev_gv ?_
        rw [e1]
        refine ih (i + 1) 1 S1 (by omega) ?_ f1
        rw [if_pos]
        obtain ⟨x, hx, y⟩ := y
        exact ⟨x, by rw [tk]; exact List.mem_append.mpr (Or.inl hx), y⟩
      · rw [if_neg y] at hs1
        subst hs1
        refine ev_gg (by decide) ?_
        refine ev_ite (fun z => absurd rfl z) (fun _ => ?_)
        refine ev_gv ?_
        refine ev_gv ?_
        rw [a1.1.1]
        refine ev_gcr (q_kidAt (d := d - 1) (K := A) (G := said) (P := i) (V := Sc) (by omega) rfl kA rfl rfl a1.2.1 sS.1 hs il) ?_
        refine ev_gv ?_
        rw [a1.1.2]
        refine ev_gc (q_areEqual (d := d - 1) (K := A) (F := B) (I := (kids Sc said).getD i 0) (J := node) (V := Sc) (U := T) (by omega) rfl kA rfl rfl kB rfl a1.2.1 a1.2.2 sS sT ka.1 hn (dp_sg Sc.length Sc (Nat.le_refl _) sS.1 dS _ ka.1) (dp_sg T.length T (Nat.le_refl _) sT.1 dT _ hn)) (fun x S2 q2 => ?_)
        obtain ⟨rfl, f2⟩ := q2
        have f02 := fc_tr f1 f2
        have ej : smJ 13 Sc ((kids Sc said).getD i 0) T (node : Int) = smF 13 (sg Sc ((kids Sc said).getD i 0)) (sg T node) := by
          unfold smJ
          rw [if_pos (by omega), Int.toNat_natCast]
        rw [← ej]
        by_cases y2 : smJ 13 Sc ((kids Sc said).getD i 0) T (node : Int) = true
        · rw [if_pos y2]
          refine ev_gg (by decide) ?_
          refine ev_ite (fun z => absurd z (by decide)) (fun _ => ?_)
          refine ev_gv ?_
          rw [e1]
          refine ih (i + 1) 1 S2 (by omega) ?_ f02
          rw [if_pos]
          exact ⟨_, by rw [tk]; exact List.mem_append.mpr (Or.inr List.mem_cons_self), y2⟩
        · rw [if_neg y2]
          refine ev_gg (by decide) ?_
          refine ev_ite (fun _ => ?_) (fun z => by omega)
          refine ev_gv ?_
          rw [e1]
          refine ih (i + 1) 0 S2 (by omega) ?_ f02
          rw [if_neg]
          rintro ⟨x, hx, z⟩
          rw [tk] at hx
          rcases List.mem_append.mp hx with q | q
          · exact y ⟨x, q, z⟩
          · rw [List.mem_singleton] at q
            rw [q] at z
            exact y2 z
  have m330 : ∀ (S1 : GS) (Q : Int → GS → Prop), Q 0 S1 → Ev (fun n => f_X12_says_ n d 330 S1 [(w : Int), (node : Int), 1]) Q := by
    intro S1 Q hQ
    refine ev_up (fun n => e_X12_says__330) ?_
    unfold b_X12_says__330
    refine ev_gg (by decide) ?_
    refine ev_ite (fun _ => ?_) (fun z => absurd (by decide) z)
    exact ev_ret hQ
  have m264 : w = 6 → ∀ (u i : Nat) (S1 : GS) (L : List (Int × Int)), i + u = (kids Sc said).length → L = (((kids Sc said).take i).filter (ndP Sc T node)).map (fun _ => ((node : Int), (6 : Int))) → CsQ (cs ++ L) S1 → FC syP S S1 → Ev (fun n => f_X12_says_ n d 264 S1 [(w : Int), (said : Int), (node : Int), nk T node, 1, (i : Int)]) (fun _ S1 => CsQ (cs ++ plR Sc T w said node) S1 ∧ FC syP S S1) := by
    intro w1 u
    have ep : plR Sc T w said node = ((kids Sc said).filter (ndP Sc T node)).map (fun _ => ((node : Int), (6 : Int))) := by
      unfold plR
      rw [if_pos w1]
    rw [if_pos w1] at hl
    induction u with
    | zero =>
      intro i S1 L hiu hL c1 f1
      rw [List.take_of_length_le (by omega), ← ep] at hL
      rw [hL] at c1
      have a1 := ab_fr hk h f1 (fun c j z => sy_ck z)
      refine ev_up (fun n => e_X12_says__264) ?_
      unfold b_X12_says__264
      refine ev_gv ?_
      rw [a1.1.1]
      refine ev_gg (by first | omega | (constructor <;> omega)) ?_
      refine ev_gcr (q_manyL (d := d - 1) (K := A) (I := said) (V := Sc) (by omega) rfl kA rfl a1.2.1 hs) ?_
      refine ev_gg (by first | omega | (constructor <;> omega)) ?_
      refine ev_gg (by first | omega | (constructor <;> omega)) ?_
      refine ev_ite (fun _ => ?_) (fun z => by omega)
      exact m330 S1 _ ⟨c1, f1⟩
    | succ u ih =>
      intro i S1 L hiu hL c1 f1
      have il : i < (kids Sc said).length := by omega
      have ka := kid_at sS.1 hs il
      have tk := tk_1 (z := 0) il
      have a1 := ab_fr hk h f1 (fun c j z => sy_ck z)
      have e1 : (i : Int) + 1 = ((i + 1 : Nat) : Int) := by omega
      refine ev_up (fun n => e_X12_says__264) ?_
      unfold b_X12_says__264
      refine ev_gv ?_
      rw [a1.1.1]
      refine ev_gg (by first | omega | (constructor <;> omega)) ?_
      refine ev_gcr (q_manyL (d := d - 1) (K := A) (I := said) (V := Sc) (by omega) rfl kA rfl a1.2.1 hs) ?_
      refine ev_gg (by first | omega | (constructor <;> omega)) ?_
      refine ev_gg (by first | omega | (constructor <;> omega)) ?_
      refine ev_ite (fun z => by omega) (fun _ => ?_)
      refine ev_gg (by first | omega | (constructor <;> omega)) ?_
      refine ev_ite (fun y => ?_) (fun y => ?_)
      · have e0 : ∀ K : List Nat, K.filter (ndP Sc T node) = [] := fun K => List.filter_eq_nil_iff.mpr (fun x _ z => y (of_decide_eq_true z).1)
        rw [e0] at hL
        rw [ep, e0]
        rw [hL] at c1
        exact m330 S1 _ ⟨c1, f1⟩
      · have k5 : nk T node = 5 := by omega
        refine ev_gv ?_
        refine ev_gv ?_
        rw [a1.1.1]
        refine ev_gcr (q_kidAt (d := d - 1) (K := A) (G := said) (P := i) (V := Sc) (by omega) rfl kA rfl rfl a1.2.1 sS.1 hs il) ?_
        refine ev_gc (q_wordOfText (d := d - 1) (K := A) (I := (kids Sc said).getD i 0) (V := Sc) (by omega) rfl kA rfl a1.2.1 ka.1) (fun _ S2 q2 => ?_)
        obtain ⟨wd2, f2⟩ := q2
        have k3 : nk Sc ((kids Sc said).getD i 0) = 3 := ho.1.2 w1 _ (by
          rw [List.getD_eq_getElem?_getD, List.getElem?_eq_getElem il]
          exact List.getElem_mem il)
        have et : sgN (Sc.getD ((kids Sc said).getD i 0) nd0) = tI Sc (((kids Sc said).getD i 0 : Nat) : Int) := by
          have k3' : (Sc.getD ((kids Sc said).getD i 0) nd0).1 = 3 := k3
          rw [sgN_t (by omega), tI_nat ka.1]
          rfl
        rw [et] at wd2
        have f02 : FC syP S S2 := fc_tr f1 (fc_mono f2 (fun c j z => Or.inr (Or.inl z)))
        have a2 := ab_fr hk h f02 (fun c j z => sy_ck z)
        have c2 := cs_fr c1 f2 (by omega) (fun j => by omega)
        refine ev_gv ?_
        rw [a2.1.2]
        refine ev_gcr (q_childByWord (d := d - 1) (K := B) (G := node) (V := T) (by omega) rfl kB rfl a2.2.2 sT.1.1.1 sT.1.2 hn wd2) ?_
        rw [← vLk_c hn k5]
        have vi : inr (vLk T (node : Int) (tI Sc (((kids Sc said).getD i 0 : Nat) : Int))) := vl_in sT.1 lT
        refine ev_gg (vi) ?_
        have ft : ((kids Sc said).take (i + 1)).filter (ndP Sc T node) = ((kids Sc said).take i).filter (ndP Sc T node) ++ (if vLk T (node : Int) (tI Sc (((kids Sc said).getD i 0 : Nat) : Int)) = -1 then [(kids Sc said).getD i 0] else []) := by
          rw [tk, List.filter_append]
          by_cases z : vLk T (node : Int) (tI Sc (((kids Sc said).getD i 0 : Nat) : Int)) = -1
          · rw [if_pos z, List.filter_cons_of_pos (show ndP Sc T node ((kids Sc said).getD i 0) = true from decide_eq_true ⟨k5, z⟩)]
            rfl
          · rw [if_neg z, List.filter_cons_of_neg (show ¬ ndP Sc T node ((kids Sc said).getD i 0) = true from fun q => z (of_decide_eq_true q).2)]
            rfl
        have ll : L.length ≤ i := by
          rw [hL, List.length_map]
          have := List.length_filter_le (ndP Sc T node) ((kids Sc said).take i)
          rw [List.length_take] at this
          omega
        refine ev_ite (fun z => ?_) (fun z => ?_)
        · refine ev_gv ?_
          rw [e1]
          refine ih (i + 1) S2 L (by omega) ?_ c2 f02
          rw [ft, if_neg z, List.append_nil, hL]
        · have z' : vLk T (node : Int) (tI Sc (((kids Sc said).getD i 0 : Nat) : Int)) = -1 := by
            by_cases q : vLk T (node : Int) (tI Sc (((kids Sc said).getD i 0 : Nat) : Int)) = -1
            · exact q
            · exact absurd q z
          refine ev_gc (q_complains (d := d - 1) (a := (node : Int)) (w := 6) c2 (by rw [List.length_append]; omega) ⟨⟨by omega, by omega⟩, by omega, by omega⟩) (fun _ S3 q3 => ?_)
          refine ev_gv ?_
          rw [e1]
          refine ih (i + 1) S3 (L ++ [((node : Int), 6)]) (by omega) ?_ ?_ (fc_tr f02 (fc_mono q3.2 (fun c j z => Or.inr (Or.inr (Or.inr (Or.inr z))))))
          · rw [ft, if_pos z', List.map_append, hL]
            rfl
          · rw [← List.append_assoc]
            exact q3.1
  -- a WORD that holds or complains
  have m1 : ∀ (pc : Nat), (pc = 150 ∨ pc = 188 ∨ pc = 219 ∨ pc = 250) → w ≠ 6 → ∀ (s : Int) (S1 : GS), (s = (if plB Sc T w said node = true then 1 else 0)) → FC syP S S1 → CsQ cs S1 → Ev (fun n => f_X12_says_ n d pc S1 [(w : Int), (node : Int), s]) (fun _ S1 => CsQ (cs ++ plR Sc T w said node) S1 ∧ FC syP S S1) := by
    intro pc hpc w6 s S1 hs1 f1 c1
    refine fin s S1 pc _ w6 hs1 f1 c1 (fun Q y1 y2 => ?_)
    have e0 : ∀ (k : Nat → Option (Int × GS)), (∀ n, k n = gg (inr s) (if s ≠ 0 then some (0, S1) else gg (1 ≤ d) (gc (f_X12_complains n (d - 1) 0 S1 [(node : Int), (w : Int)]) fun x4 S_5 => some (0, S_5)))) → Ev k Q := by
      intro k hk0
      have ek : k = fun n => gg (inr s) (if s ≠ 0 then some (0, S1) else gg (1 ≤ d) (gc (f_X12_complains n (d - 1) 0 S1 [(node : Int), (w : Int)]) fun x4 S_5 => some (0, S_5))) := funext hk0
      rw [ek]
      by_cases y : plB Sc T w said node = true
      · rw [if_pos y] at hs1
        subst hs1
        refine ev_gg (by decide) ?_
        refine ev_ite (fun _ => ?_) (fun z => absurd (by decide) z)
        exact ev_ret (y1 y)
      · rw [if_neg y] at hs1
        subst hs1
        refine ev_gg (by decide) ?_
        refine ev_ite (fun z => absurd rfl z) (fun _ => ?_)
        refine ev_gg (by first | omega | (constructor <;> omega)) ?_
        exact y2 y
    rcases hpc with z | z | z | z
    · subst z
      refine ev_up (fun n => e_X12_says__150) ?_
      exact e0 _ (fun n => rfl)
    · subst z
      refine ev_up (fun n => e_X12_says__188) ?_
      exact e0 _ (fun n => rfl)
    · subst z
      refine ev_up (fun n => e_X12_says__219) ?_
      exact e0 _ (fun n => rfl)
    · subst z
      refine ev_up (fun n => e_X12_says__250) ?_
      exact e0 _ (fun n => rfl)
  have ln0 : nk T node < 3 → lnI T (node : Int) = -1 := fun z => by
    unfold lnI
    rw [if_pos (by omega), Int.toNat_natCast, if_neg (by omega), if_neg (by omega)]
  have ln1 : ¬ nk T node < 3 → 0 ≤ lnI T (node : Int) ∧ lnI T (node : Int) < 1000 := fun z => by
    have t40 := nr.2.2.2.2.2.2.1
    have t40' : (nt T node).length ≤ 40 := t40
    unfold lnI
    rw [if_pos (by omega), Int.toNat_natCast]
    split
    · omega
    · rw [if_pos (by omega)]
      omega
  have m41 : ∀ s0 : Int, (¬ nk T node < 3 → s0 = lnI T (node : Int)) → Ev (fun n => f_X12_says_ n d 41 S [(w : Int), (said : Int), (node : Int), nk T node, s0]) (fun _ S1 => CsQ (cs ++ plR Sc T w said node) S1 ∧ FC syP S S1) := by
    intro s0 hs0
    refine ev_up (fun n => e_X12_says__41) ?_
    unfold b_X12_says__41
    refine ev_gg (by first | omega | (constructor <;> omega)) ?_
    refine ev_ite (fun n1 => ?_) (fun y1 => ?_)
    · refine ev_ite (fun n2 => ?_) (fun y2 => ?_)
      · refine ev_ite (fun n3 => ?_) (fun y3 => ?_)
        · refine ev_ite (fun n4 => ?_) (fun y4 => ?_)
          · refine ev_ite (fun n5 => ?_) (fun y5 => ?_)
            · refine ev_ite (fun n6 => ?_) (fun y6 => ?_)
              · refine m339 (by omega) (kids Sc said).length 0 0 S (by omega) ?_ fc_rf
                rw [List.take_zero, if_neg (fun ⟨x, hx, _⟩ => by cases hx)]
              · exact m264 (by omega) (kids Sc said).length 0 S [] (by omega) (by rw [List.take_zero]; rfl) (by rw [List.append_nil]; exact hc) fc_rf
            · -- longest
              have w5 : w = 5 := by omega
              have epB : plB Sc T w said node = decide (lnI T (node : Int) = -1 ∨ onI (lnN T node) 0 Sc (said : Int) ≤ 0) := by
                unfold plB
                rw [if_neg (by omega), if_neg (by omega), if_neg (by omega), if_neg (by omega), if_pos w5]
              refine ev_gg (by first | omega | (constructor <;> omega)) ?_
              refine ev_ite (fun z => ?_) (fun z => ?_)
              · refine m1 250 (by omega) (by omega) 1 S ?_ fc_rf hc
                rw [epB, if_pos (decide_eq_true (Or.inl (ln0 z)))]
              · refine ev_gg (by first | omega | (constructor <;> omega)) ?_
                rw [hs0 z]
                refine ev_gc (q_beside (d := d - 1) (F := A) (J := said) (U := Sc) (T := T) (node := node) (by omega) rfl (ln1 z) h.1.1 kA kA4 h.2.1 sS rfl hs (ho.1.1 (by omega))) (fun x S2 q2 => ?_)
                obtain ⟨rfl, f2⟩ := q2
                refine ev_gg (on_r) ?_
                refine ev_ite (fun q => ?_) (fun q => ?_)
                · refine m1 250 (by omega) (by omega) 0 S2 ?_ (fc_mono f2 (fun c j y => bs_sy y)) (cs1 hc f2 (fun c j y => y.elim Or.inl (fun y => Or.inr (Or.inr (Or.inr y)))))
                  rw [epB, if_neg]
                  rw [decide_eq_true_eq]
                  have := (ln1 z).1
                  omega
                · refine m1 250 (by omega) (by omega) 1 S2 ?_ (fc_mono f2 (fun c j y => bs_sy y)) (cs1 hc f2 (fun c j y => y.elim Or.inl (fun y => Or.inr (Or.inr (Or.inr y)))))
                  rw [epB, if_pos (decide_eq_true (Or.inr (by omega)))]
          · -- shortest
            have w5 : w = 4 := by omega
            have epB : plB Sc T w said node = decide (lnI T (node : Int) = -1 ∨ 0 ≤ onI (lnN T node) 0 Sc (said : Int)) := by
              unfold plB
              rw [if_neg (by omega), if_neg (by omega), if_neg (by omega), if_pos w5]
            refine ev_gg (by first | omega | (constructor <;> omega)) ?_
            refine ev_ite (fun z => ?_) (fun z => ?_)
            · refine m1 219 (by omega) (by omega) 1 S ?_ fc_rf hc
              rw [epB, if_pos (decide_eq_true (Or.inl (ln0 z)))]
            · refine ev_gg (by first | omega | (constructor <;> omega)) ?_
              rw [hs0 z]
              refine ev_gc (q_beside (d := d - 1) (F := A) (J := said) (U := Sc) (T := T) (node := node) (by omega) rfl (ln1 z) h.1.1 kA kA4 h.2.1 sS rfl hs (ho.1.1 (by omega))) (fun x S2 q2 => ?_)
              obtain ⟨rfl, f2⟩ := q2
              refine ev_gg (on_r) ?_
              refine ev_ite (fun q => ?_) (fun q => ?_)
              · refine m1 219 (by omega) (by omega) 0 S2 ?_ (fc_mono f2 (fun c j y => bs_sy y)) (cs1 hc f2 (fun c j y => y.elim Or.inl (fun y => Or.inr (Or.inr (Or.inr y)))))
                rw [epB, if_neg]
                rw [decide_eq_true_eq]
                have := (ln1 z).1
                omega
              · refine m1 219 (by omega) (by omega) 1 S2 ?_ (fc_mono f2 (fun c j y => bs_sy y)) (cs1 hc f2 (fun c j y => y.elim Or.inl (fun y => Or.inr (Or.inr (Or.inr y)))))
                rw [epB, if_pos (decide_eq_true (Or.inr (by omega)))]
        · -- most
          have w5 : w = 3 := by omega
          have epB : plB Sc T w said node = decide (nk T node ≠ 2 ∨ onI T (node : Int) Sc (said : Int) ≤ 0) := by
            unfold plB
            rw [if_neg (by omega), if_neg (by omega), if_pos w5]
          refine ev_gg (by first | omega | (constructor <;> omega)) ?_
          refine ev_ite (fun z => ?_) (fun z => ?_)
          · refine m1 188 (by omega) (by omega) 1 S ?_ fc_rf hc
            rw [epB, if_pos (decide_eq_true (Or.inl z))]
          · have k2 : nk T node = 2 := by omega
            refine ev_gv ?_
            rw [h.1.2]
            refine ev_gv ?_
            rw [h.1.1]
            refine ev_gg (by first | omega | (constructor <;> omega)) ?_
            refine ev_gcr (q_compared (d := d - 1) (K := B) (F := A) (I := node) (J := said) (V := T) (U := Sc) (by omega) rfl kB rfl rfl kA rfl h.2.2 h.2.1 hn hs k2 (ho.1.1 (by omega)) (vn_nt sT hn k2) (vn_nt sS hs (ho.1.1 (by omega)))) ?_
            refine ev_gg (on_r) ?_
            refine ev_ite (fun q => ?_) (fun q => ?_)
            · refine m1 188 (by omega) (by omega) 0 S ?_ fc_rf hc
              rw [epB, if_neg]
              rw [decide_eq_true_eq]
              omega
            · refine m1 188 (by omega) (by omega) 1 S ?_ fc_rf hc
              rw [epB, if_pos (decide_eq_true (Or.inr (by omega)))]
      · -- least
        have w5 : w = 2 := by omega
        have epB : plB Sc T w said node = decide (nk T node ≠ 2 ∨ 0 ≤ onI T (node : Int) Sc (said : Int)) := by
          unfold plB
          rw [if_neg (by omega), if_pos w5]
        refine ev_gg (by first | omega | (constructor <;> omega)) ?_
        refine ev_ite (fun z => ?_) (fun z => ?_)
        · refine m1 150 (by omega) (by omega) 1 S ?_ fc_rf hc
          rw [epB, if_pos (decide_eq_true (Or.inl z))]
        · have k2 : nk T node = 2 := by omega
          refine ev_gv ?_
          rw [h.1.2]
          refine ev_gv ?_
          rw [h.1.1]
          refine ev_gg (by first | omega | (constructor <;> omega)) ?_
          refine ev_gcr (q_compared (d := d - 1) (K := B) (F := A) (I := node) (J := said) (V := T) (U := Sc) (by omega) rfl kB rfl rfl kA rfl h.2.2 h.2.1 hn hs k2 (ho.1.1 (by omega)) (vn_nt sT hn k2) (vn_nt sS hs (ho.1.1 (by omega)))) ?_
          refine ev_gg (on_r) ?_
          refine ev_ite (fun q => ?_) (fun q => ?_)
          · refine m1 150 (by omega) (by omega) 0 S ?_ fc_rf hc
            rw [epB, if_neg]
            rw [decide_eq_true_eq]
            omega
          · refine m1 150 (by omega) (by omega) 1 S ?_ fc_rf hc
            rw [epB, if_pos (decide_eq_true (Or.inr (by omega)))]
    · have w1 : w = 1 := by omega
      refine ev_gg (by first | omega | (constructor <;> omega)) ?_
      refine ev_gc (q_isKind (d := d - 1) (A := A) (B := B) (Sc := Sc) (T := T) (c := said) (node := node) (by omega) hk h hs hn) (fun x S2 q2 => ?_)
      obtain ⟨rfl, f2⟩ := q2
      refine m62 w1 (kids Sc said).length 0 _ S2 (by omega) ?_ f2
      rw [List.take_zero]
      by_cases y : okK Sc T node said = true
      · rw [if_pos y, if_pos (Or.inl y)]
      · rw [if_neg y, if_neg (fun z => by
          rcases z with z | ⟨x, hx, _⟩
          · exact y z
          · cases hx)]
  refine ev_up (fun n => e_X12_says__0) ?_
  unfold b_X12_says__0
  refine ev_gv ?_
  rw [h.1.2]
  refine ev_gg (by first | omega | (constructor <;> omega)) ?_
  refine ev_gcr (q_kindL (d := d - 1) (K := B) (I := node) (V := T) (by omega) rfl kB rfl h.2.2 hn) ?_
  refine ev_gg (by first | omega | (constructor <;> omega)) ?_
  refine ev_ite (fun y => ?_) (fun y => ?_)
  · refine ev_gv ?_
    rw [h.1.2]
    refine ev_gcr (q_manyL (d := d - 1) (K := B) (I := node) (V := T) (by omega) rfl kB rfl h.2.2 hn) ?_
    refine m41 _ (fun z => ?_)
    unfold lnI
    rw [if_pos (by omega), Int.toNat_natCast, if_neg y, if_pos (by omega)]
  · refine ev_gv ?_
    rw [h.1.2]
    refine ev_gcr (q_longL (d := d - 1) (K := B) (I := node) (V := T) (by omega) rfl kB rfl h.2.2 hn) ?_
    refine m41 _ (fun z => ?_)
    have k3 : (T.getD node nd0).1 = 3 := by have : nk T node = (T.getD node nd0).1 := rfl; omega
    unfold lnI
    rw [if_pos (by omega), Int.toNat_natCast, if_pos (by omega), sgN_t (by omega)]
    rfl
end SA2
