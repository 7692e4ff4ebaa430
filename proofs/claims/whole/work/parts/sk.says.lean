/-! THE REFERENCE asks: COMPLAINTS, kinds, WORDS that ask nothing -/
abbrev csP : Nat → Nat → Prop := fun c j => (c = 500 ∧ j = 79) ∨ c = 551
def CsQ (cs : List (Int × Int)) (S : GS) : Prop := S.1 500 79 = (cs.length : Int) ∧ (∀ i, i < cs.length → S.1 551 i = 32 * (prA cs i).1 + (prA cs i).2) ∧ ∀ x ∈ cs, (0 ≤ x.1 ∧ x.1 < 100) ∧ 0 ≤ x.2 ∧ x.2 < 16
abbrev ckF : Nat → Nat → Prop := fun c j => doP 40 c j ∨ wdP c j ∨ eqP c j ∨ c = 510 ∨ (c = 500 ∧ (j = 64 ∨ j = 65 ∨ j = 66 ∨ j = 75 ∨ j = 76 ∨ j = 79)) ∨ (541 ≤ c ∧ c ≤ 551)
abbrev syP : Nat → Nat → Prop := fun c j => doP 40 c j ∨ wdP c j ∨ eqP c j ∨ c = 510 ∨ csP c j
/-- of one frame -/
abbrev f1P (k : Nat) : Nat → Nat → Prop := fun c j => 541 ≤ c ∧ c ≤ 548 ∧ j = k
/-- what changes while the frames from k on run -/
abbrev akP (k : Nat) : Nat → Nat → Prop := fun c j => doP 40 c j ∨ wdP c j ∨ eqP c j ∨ c = 510 ∨ (c = 500 ∧ (j = 64 ∨ j = 66 ∨ j = 75 ∨ j = 76 ∨ j = 79)) ∨ (541 ≤ c ∧ c ≤ 548 ∧ k ≤ j) ∨ (549 ≤ c ∧ c ≤ 551)
section INC
variable {c j k : Nat}
theorem wd_ck (z : wdP c j) : ckF c j := Or.inr (Or.inl z)
theorem eq_ck (z : eqP c j) : ckF c j := Or.inr (Or.inr (Or.inl z))
theorem cs_ck (z : csP c j) : ckF c j := z.elim (fun y => Or.inr (Or.inr (Or.inr (Or.inr (Or.inl (⟨y.1, by omega⟩)))))) (fun y => Or.inr (Or.inr (Or.inr (Or.inr (Or.inr (⟨by omega, by omega⟩))))))
theorem f1_ck (z : f1P k c j) : ckF c j := Or.inr (Or.inr (Or.inr (Or.inr (Or.inr (⟨z.1, by omega⟩)))))
theorem sy_ck (z : syP c j) : ckF c j := z.elim (fun y => Or.inl y) (fun z => z.elim (fun y => Or.inr (Or.inl y)) (fun z => z.elim (fun y => Or.inr (Or.inr (Or.inl y))) (fun z => z.elim (fun y => Or.inr (Or.inr (Or.inr (Or.inl y)))) cs_ck)))
theorem ak_ck (z : akP k c j) : ckF c j := z.elim (fun y => Or.inl y) (fun z => z.elim (fun y => Or.inr (Or.inl y)) (fun z => z.elim (fun y => Or.inr (Or.inr (Or.inl y))) (fun z => z.elim (fun y => Or.inr (Or.inr (Or.inr (Or.inl y)))) (fun z => z.elim (fun y => Or.inr (Or.inr (Or.inr (Or.inr (Or.inl (⟨y.1, by omega⟩)))))) (fun z => z.elim (fun y => Or.inr (Or.inr (Or.inr (Or.inr (Or.inr (⟨y.1, by omega⟩)))))) (fun y => Or.inr (Or.inr (Or.inr (Or.inr (Or.inr (⟨by omega, y.2⟩)))))))))))
theorem bs_sy (z : bsP c j) : syP c j := z.elim (fun y => Or.inl y) (fun y => Or.inr (Or.inr (Or.inr (Or.inl y))))
theorem cs_sy (z : csP c j) : syP c j := Or.inr (Or.inr (Or.inr (Or.inr z)))
theorem wd_sy (z : wdP c j) : syP c j := Or.inr (Or.inl z)
theorem eq_sy (z : eqP c j) : syP c j := Or.inr (Or.inr (Or.inl z))
theorem wd_akP (z : wdP c j) : akP k c j := Or.inr (Or.inl z)
theorem cs_ak (z : csP c j) : akP k c j := z.elim (fun y => Or.inr (Or.inr (Or.inr (Or.inr (Or.inl (⟨y.1, by omega⟩)))))) (fun y => Or.inr (Or.inr (Or.inr (Or.inr (Or.inr (Or.inr (⟨by omega, by omega⟩)))))))
theorem f1_ak (z : f1P k c j) : akP k c j := Or.inr (Or.inr (Or.inr (Or.inr (Or.inr (Or.inl (⟨z.1, z.2.1, by omega⟩))))))
theorem f2_ak (z : f1P (k + 1) c j) : akP k c j := Or.inr (Or.inr (Or.inr (Or.inr (Or.inr (Or.inl (⟨z.1, z.2.1, by omega⟩))))))
theorem sy_ak (z : syP c j) : akP k c j := z.elim (fun y => Or.inl y) (fun z => z.elim (fun y => Or.inr (Or.inl y)) (fun z => z.elim (fun y => Or.inr (Or.inr (Or.inl y))) (fun z => z.elim (fun y => Or.inr (Or.inr (Or.inr (Or.inl y)))) cs_ak)))
theorem i5_ak (z : c = 500 ∧ (j = 64 ∨ j = 66 ∨ j = 75 ∨ j = 76 ∨ j = 79)) : akP k c j := Or.inr (Or.inr (Or.inr (Or.inr (Or.inl z))))
theorem ao_ak (z : (c = 500 ∧ (j = 64 ∨ j = 66)) ∨ f1P k c j) : akP k c j := z.elim (fun y => i5_ak ⟨y.1, by omega⟩) f1_ak
theorem ao2_ak (z : (c = 500 ∧ (j = 64 ∨ j = 66)) ∨ f1P (k + 1) c j) : akP k c j := z.elim (fun y => i5_ak ⟨y.1, by omega⟩) f2_ak
theorem ak_le {k2 : Nat} (h : k2 ≤ k) (z : akP k c j) : akP k2 c j := z.elim (fun y => Or.inl y) (fun z => z.elim (fun y => Or.inr (Or.inl y)) (fun z => z.elim (fun y => Or.inr (Or.inr (Or.inl y))) (fun z => z.elim (fun y => Or.inr (Or.inr (Or.inr (Or.inl y)))) (fun z => z.elim (fun y => Or.inr (Or.inr (Or.inr (Or.inr (Or.inl y))))) (fun z => z.elim (fun y => Or.inr (Or.inr (Or.inr (Or.inr (Or.inr (Or.inl (⟨y.1, y.2.1, by omega⟩))))))) (fun y => Or.inr (Or.inr (Or.inr (Or.inr (Or.inr (Or.inr y)))))))))))
end INC
/-- who is asked, about what -/
def AbS (A B : Nat) (Sc T : List ND) (S : GS) : Prop := (S.1 500 62 = (A : Int) ∧ S.1 500 63 = (B : Int)) ∧ LK S A Sc ∧ LK S B T
abbrev AbK (A B : Nat) (Sc T : List ND) : Prop := ((A < 48 ∧ A ≠ 40) ∧ (B < 48 ∧ B ≠ 40)) ∧ (SDC Sc ∧ ∀ r, dpS r Sc ≤ 12) ∧ SDC T ∧ ∀ r, dpS r T ≤ 12
theorem ab_fr {P : Nat → Nat → Prop} {A B : Nat} {Sc T : List ND} {S S1 : GS} (hk : AbK A B Sc T) (h : AbS A B Sc T S) (hf : FC P S S1) (hP : ∀ c j, P c j → ckF c j) : AbS A B Sc T S1 := by
  have no : ∀ c j, ¬ ckF c j → ¬ P c j := fun c j z y => z (hP c j y)
  obtain ⟨⟨a1, a2⟩, a3, a4⟩ := hk
  exact ⟨⟨by rw [fc_i hf (no _ _ (by omega))]; exact h.1.1, by rw [fc_i hf (no _ _ (by omega))]; exact h.1.2⟩, lk_fr h.2.1 hf (fun j _ _ => no _ _ (by omega)) (no _ _ (by omega)), lk_fr h.2.2 hf (fun j _ _ => no _ _ (by omega)) (no _ _ (by omega))⟩
theorem cs_fr {P : Nat → Nat → Prop} {cs : List (Int × Int)} {S S1 : GS} (h : CsQ cs S) (hf : FC P S S1) (h1 : ¬ P 500 79) (h2 : ∀ j, ¬ P 551 j) : CsQ cs S1 := ⟨(fc_i hf h1).trans h.1, fun i hi => (fc_i hf (h2 i)).trans (h.2.1 i hi), h.2.2⟩
theorem prA_app {L : List (Int × Int)} {x : Int × Int} {i : Nat} (h : i < L.length + 1) : prA (L ++ [x]) i = if i < L.length then prA L i else x := by
  show (L ++ [x]).getD i (0, 0) = _
  by_cases c : i < L.length
  · rw [if_pos c, List.getD_eq_getElem?_getD, List.getElem?_append_left c, ← List.getD_eq_getElem?_getD]
  · rw [if_neg c, List.getD_eq_getElem?_getD, List.getElem?_append_right (by omega), show i - L.length = 0 by omega]
    rfl
section SAY
variable {S : GS} {d A B : Nat} {Sc T : List ND} {cs : List (Int × Int)}
theorem q_complains {a w : Int} (h : CsQ cs S) (hl : cs.length < 220000) (hv : (0 ≤ a ∧ a < 100) ∧ 0 ≤ w ∧ w < 16) : Ev (fun n => f_X12_complains n d 0 S [a, w]) (fun _ S1 => CsQ (cs ++ [(a, w)]) S1 ∧ FC csP S S1) := by
  refine ev_up (fun n => e_X12_complains_0) ?_
  unfold b_X12_complains_0
  refine ev_gv ?_
  refine ev_gv ?_
  refine ev_gv ?_
  rw [h.1]
  refine ev_gg (by first | omega | (constructor <;> omega)) ?_
  refine ev_gv ?_
  refine ev_gv ?_
  rw [gI_c (show (500 : Nat) ≠ 551 by decide), h.1]
  refine ev_gv ?_
  refine ev_gv ?_
  refine ev_ret ⟨⟨by rw [gI_a, List.length_append]; show (cs.length : Int) + 1 = ((cs.length + 1 : Nat) : Int); omega, fun i hi => ?_, fun x hx => ?_⟩, fc_tr (fc_gI (Or.inr rfl)) (fc_gI (Or.inl ⟨rfl, rfl⟩))⟩
  rotate_left
  · rcases List.mem_append.mp hx with z | z
    · exact h.2.2 x z
    · rw [List.mem_singleton] at z
      rw [z]
      exact hv
  rw [List.length_append, List.length_singleton] at hi
  rw [gI_c (show (551 : Nat) ≠ 500 by decide), prA_app hi, Int.toNat_natCast]
  by_cases c : i < cs.length
  · rw [if_pos c, gI_k (by omega)]
    exact h.2.1 i c
  · rw [if_neg c, show i = cs.length by omega]
    exact gI_a
theorem kinds_sx : ∀ j, j < 7 → lw (gl_kinds.getD j 0).toInt = sx (if j = 6 then 46 else 47 + j) := by decide +kernel
theorem kinds_in : ∀ j, j < 7 → inl (gl_kinds.getD j 0).toInt := by decide +kernel
theorem kinds_46 : ∀ j, j < 6 → sx 46 ≠ sx (47 + j) := by decide +kernel
theorem kinds_47 : ∀ i, i < 6 → ∀ j, j < 6 → sx (47 + i) = sx (47 + j) → i = j := by decide +kernel
abbrev kh (Sc T : List ND) (c node j : Nat) : Prop := (nk Sc c = 3 ∧ nt Sc c = lw (gl_kinds.getD j 0).toInt) ∧ (if j = 6 then nk T node = 2 ∧ 0 ≤ pwN (T.getD node nd0) else nk T node = (j : Int))
theorem kh_ok {c node : Nat} (hc : c < Sc.length) (hn : node < T.length) (hr : 0 ≤ nk T node ∧ nk T node ≤ 5) : (∃ j, j < 7 ∧ kh Sc T c node j) ↔ okK Sc T node c = true := by
  unfold okK
  have e1 : ∀ t, saysP Sc (c : Int) t ↔ nk Sc c = 3 ∧ nt Sc c = sx t := fun t => by
    show kdI Sc (c : Int) = 3 ∧ tI Sc (c : Int) = sx t ↔ _
    rw [kdI_n hc, tI_nat hc]
  by_cases w : saysP Sc (c : Int) 46
  · rw [if_pos w, decide_eq_true_eq]
    have w' := (e1 46).mp w
    constructor
    · rintro ⟨j, hj, ⟨_, h2⟩, h3⟩
      by_cases j6 : j = 6
      · rw [if_pos j6] at h3
        exact ⟨h3.1, by rw [pw_N h3.1 hn]; exact h3.2⟩
      · rw [kinds_sx j hj, if_neg j6, w'.2] at h2
        exact absurd h2 (kinds_46 j (by omega))
    · rintro ⟨h1, h2⟩
      rw [pw_N h1 hn] at h2
      exact ⟨6, by decide, ⟨w'.1, by rw [w'.2, kinds_sx 6 (by decide)]; rfl⟩, by rw [if_pos rfl]; exact ⟨h1, h2⟩⟩
  · rw [if_neg w, decide_eq_true_eq, e1]
    have ek : ∀ j : Nat, j < 6 → nk T node = (j : Int) → kdW (nk T node) = 47 + j := fun j hj e => by
      rw [e]
      unfold kdW
      rcases (show j = 0 ∨ j = 1 ∨ j = 2 ∨ j = 3 ∨ j = 4 ∨ j = 5 by omega) with z | z | z | z | z | z <;> subst z <;> rfl
    constructor
    · rintro ⟨j, hj, ⟨h1, h2⟩, h3⟩
      by_cases j6 : j = 6
      · subst j6
        rw [kinds_sx 6 (by decide), if_pos rfl] at h2
        exact absurd ((e1 46).mpr ⟨h1, h2⟩) w
      · rw [if_neg j6] at h3
        rw [kinds_sx j hj, if_neg j6] at h2
        exact ⟨h1, by rw [ek j (by omega) h3]; exact h2⟩
    · rintro ⟨h1, h2⟩
      obtain ⟨j, hj⟩ : ∃ j : Nat, nk T node = (j : Int) := ⟨(nk T node).toNat, by omega⟩
      have j5 : j < 6 := by omega
      rw [ek j j5 hj] at h2
      exact ⟨j, by omega, ⟨h1, by rw [kinds_sx j (by omega), if_neg (by omega)]; exact h2⟩, by rw [if_neg (by omega)]; exact hj⟩
theorem q_isKind {c node : Nat} (hd : 5 ≤ d) (hk : AbK A B Sc T) (h : AbS A B Sc T S) (hc : c < Sc.length) (hn : node < T.length) : Ev (fun n => f_X12_isKind n d 0 S [(c : Int), (node : Int)]) (fun x S1 => x = (if okK Sc T node c = true then 1 else 0) ∧ FC wdP S S1) := by
  have nr := h.2.2.2.2.2 _ (nd_mem hn)
  have nr1 : 0 ≤ nk T node ∧ nk T node ≤ 5 := ⟨nr.1, nr.2.1⟩
  have lp : ∀ (u k : Nat) (s : Int) (S1 : GS), k + u = 7 → (s = 0 ∨ s = 1) → FC wdP S S1 → Ev (fun n => f_X12_isKind n d 5 S1 [(c : Int), (node : Int), s, (k : Int)]) (fun x S2 => (x = 0 ∨ x = 1) ∧ (x = 1 ↔ s = 1 ∨ ∃ j, k ≤ j ∧ j < 7 ∧ kh Sc T c node j) ∧ FC wdP S S2) := by
    intro u
    induction u with
    | zero =>
      intro k s S1 hku hs f1
      refine ev_up (fun n => e_X12_isKind_5) ?_
      unfold b_X12_isKind_5
      refine ev_gg (by first | omega | (constructor <;> omega)) ?_
      refine ev_ite (fun _ => ?_) (fun z => by omega)
      refine ev_gg (hs) ?_
      exact ev_ret ⟨hs, ⟨fun z => Or.inl z, fun z => by
        rcases z with z | ⟨j, _, _, _⟩
        · exact z
        · omega⟩, f1⟩
    | succ u ih =>
      intro k s S1 hku hs f1
      have h1 := ab_fr hk h f1 (fun c j z => Or.inr (Or.inl z))
      have e1 : (k : Int) + 1 = ((k + 1 : Nat) : Int) := by omega
      have more : ∀ (s2 : Int) (S2 : GS), (s2 = 0 ∨ s2 = 1) → (s2 = 1 ↔ kh Sc T c node k) → FC wdP S S2 → Ev (fun n => f_X12_isKind n d 5 S2 [(c : Int), (node : Int), s2, ((k + 1 : Nat) : Int)]) (fun x S2 => (x = 0 ∨ x = 1) ∧ (x = 1 ↔ (0 : Int) = 1 ∨ ∃ j, k ≤ j ∧ j < 7 ∧ kh Sc T c node j) ∧ FC wdP S S2) := by
        intro s2 S2 hs2 hq f2
        refine ev_mono (ih (k + 1) s2 S2 (by omega) hs2 f2) (fun x S3 q => ⟨q.1, ?_, q.2.2⟩)
        rw [q.2.1, hq]
        constructor
        · rintro (z | ⟨j, z1, z2, z3⟩)
          · exact Or.inr ⟨k, Nat.le_refl _, by omega, z⟩
          · exact Or.inr ⟨j, by omega, z2, z3⟩
        · rintro (z | ⟨j, z1, z2, z3⟩)
          · omega
          · by_cases y : j = k
            · rw [y] at z3
              exact Or.inl z3
            · exact Or.inr ⟨j, by omega, z2, z3⟩
      refine ev_up (fun n => e_X12_isKind_5) ?_
      unfold b_X12_isKind_5
      refine ev_gg (by first | omega | (constructor <;> omega)) ?_
      refine ev_ite (fun z => by omega) (fun _ => ?_)
      rcases hs with z | z
      · subst z
        refine ev_gg (by decide) ?_
        refine ev_ite (fun y => absurd rfl y) (fun _ => ?_)
        refine ev_gv ?_
        rw [h1.1.1]
        refine ev_gg (by first | omega | (constructor <;> omega)) ?_
        refine ev_gv ?_
        refine ev_gg (by first | omega | (constructor <;> omega)) ?_
        rw [Int.toNat_natCast]
        refine ev_gc (q_isText (d := d - 1) (K := A) (I := c) (V := Sc) (by omega) (kinds_in k (by omega)) rfl hk.1.1.1 rfl h1.2.1 hc) (fun t S2 q2 => ?_)
        obtain ⟨rfl, w2, f2⟩ := q2
        have f02 := fc_tr f1 f2
        have h2 := ab_fr hk h f02 (fun c j z => Or.inr (Or.inl z))
        by_cases ct : nk Sc c = 3 ∧ nt Sc c = lw (gl_kinds.getD k 0).toInt
        · rw [if_pos ct]
          refine ev_gg (by decide) ?_
          refine ev_ite (fun y => absurd y (by decide)) (fun _ => ?_)
          refine ev_ite (fun y => ?_) (fun y => ?_)
          · have k6 : k = 6 := by omega
            refine ev_gv ?_
            rw [h2.1.2]
            refine ev_gcr (q_kindL (d := d - 1) (K := B) (I := node) (V := T) (by omega) rfl hk.1.2.1 rfl h2.2.2 hn) ?_
            refine ev_gg (by first | omega | (constructor <;> omega)) ?_
            refine ev_ite (fun y2 => ?_) (fun y2 => ?_)
            · refine ev_gv ?_
              rw [e1]
              exact more 0 S2 (Or.inl rfl) ⟨fun z => by omega, fun z => by
                have := z.2
                rw [if_pos k6] at this
                exact absurd this.1 y2⟩ f02
            · refine ev_gv ?_
              rw [h2.1.2]
              refine ev_gcr (q_powL (d := d - 1) (K := B) (I := node) (V := T) (by omega) rfl hk.1.2.1 rfl h2.2.2 hn) ?_
              have k2 : nk T node = 2 := by omega
              have pr : pwN (T.getD node nd0) = np T node := by unfold pwN; rw [if_pos (show (T.getD node nd0).1 = 2 from k2)]; rfl
              have ra : -200 ≤ np T node ∧ np T node ≤ 200 := ⟨nr.2.2.2.2.1, nr.2.2.2.2.2.1⟩
              refine ev_gg (by first | omega | (constructor <;> omega)) ?_
              refine ev_ite (fun y3 => ?_) (fun y3 => ?_)
              · refine ev_gv ?_
                rw [e1]
                exact more 0 S2 (Or.inl rfl) ⟨fun z => by omega, fun z => by
                  have := z.2
                  rw [if_pos k6] at this
                  omega⟩ f02
              · refine ev_gv ?_
                rw [e1]
                exact more 1 S2 (Or.inr rfl) ⟨fun _ => ⟨ct, by rw [if_pos k6]; exact ⟨k2, by omega⟩⟩, fun _ => rfl⟩ f02
          · refine ev_gv ?_
            rw [h2.1.2]
            refine ev_gcr (q_kindL (d := d - 1) (K := B) (I := node) (V := T) (by omega) rfl hk.1.2.1 rfl h2.2.2 hn) ?_
            refine ev_gg (by first | omega | (constructor <;> omega)) ?_
            refine ev_ite (fun y2 => ?_) (fun y2 => ?_)
            · refine ev_gv ?_
              rw [e1]
              exact more 0 S2 (Or.inl rfl) ⟨fun z => by omega, fun z => by
                have := z.2
                rw [if_neg (by omega)] at this
                exact absurd this y2⟩ f02
            · refine ev_gv ?_
              rw [e1]
              exact more 1 S2 (Or.inr rfl) ⟨fun _ => ⟨ct, by rw [if_neg (by omega)]; omega⟩, fun _ => rfl⟩ f02
        · rw [if_neg ct]
          refine ev_gg (by decide) ?_
          refine ev_ite (fun _ => ?_) (fun z => by omega)
          refine ev_gv ?_
          rw [e1]
          exact more 0 S2 (Or.inl rfl) ⟨fun z => by omega, fun z => absurd z.1 ct⟩ f02
      · subst z
        refine ev_gg (by decide) ?_
        refine ev_ite (fun _ => ?_) (fun y => absurd (by decide) y)
        refine ev_gv ?_
        rw [e1]
        refine ev_mono (ih (k + 1) 1 S1 (by omega) (Or.inr rfl) f1) (fun x S2 q => ⟨q.1, ?_, q.2.2⟩)
        rw [q.2.1]
        exact ⟨fun _ => Or.inl rfl, fun _ => Or.inl rfl⟩
  refine ev_up (fun n => e_X12_isKind_0) ?_
  unfold b_X12_isKind_0
  refine ev_mono (lp 7 0 0 S rfl (Or.inl rfl) fc_rf) (fun x S2 q => ⟨?_, q.2.2⟩)
  have e : x = 1 ↔ okK Sc T node c = true := by
    rw [q.2.1, ← kh_ok hc hn nr1]
    exact ⟨fun z => by
      rcases z with z | ⟨j, _, z2, z3⟩
      · omega
      · exact ⟨j, z2, z3⟩, fun ⟨j, z2, z3⟩ => Or.inr ⟨j, Nat.zero_le _, z2, z3⟩⟩
  by_cases y : okK Sc T node c = true
  · rw [if_pos y]
    exact e.mpr y
  · rw [if_neg y]
    rcases q.1 with z | z
    · exact z
    · exact absurd (e.mp z) y
/-- what is right of a WORD that the reference rests on -/
abbrev okWd (Sc : List ND) (w said : Nat) : Prop := ((2 ≤ w ∧ w ≤ 5 → nk Sc said = 2) ∧ (w = 6 → ∀ c ∈ kids Sc said, nk Sc c = 3)) ∧ (w = 7 → nk Sc said = 5) ∧ (w = 15 → nk Sc said = 3)
theorem on_r {V U : List ND} {i j : Int} : inr (onI V i U j) := by
  rcases onI_r V i U j with z | z | z <;> rw [z] <;> decide
end SAY
