/-! SCHEMAS: leaves of the class -/
theorem gT400 : gT 400 := by decide
theorem gSh460 : gSh 460 := by decide
theorem gSh462 : gSh 462 := by decide
abbrev dkc (c : Nat) : Prop := gT c ∧ c ≠ 400
section CKL
variable {S S0 : GS} {cS cT d : Nat} {Sc T : List ND} {most : Int} {refs : List (Int × Int)} {K : CK}
/-- what else changes -/
theorem ck_fr {S1 : GS} {M : Nat → Prop} (h2 : dkc cS ∧ dkc cT) (h : CkS cS cT Sc T most refs K S0 S) (hf : Fr M S S1) (hM : ∀ k, M k → trM 400 k ∨ (460 ≤ k ∧ k ≤ 463)) (hG : Good S1) : CkS cS cT Sc T most refs K S0 S1 := by
  obtain ⟨⟨e1, e2⟩, ⟨t1, t2⟩, ⟨r1, r2, r3⟩, ⟨k1, k2, k3, k4, k5, k6⟩, o, f, g⟩ := h
  have no : ∀ c, 487 ≤ c → ¬ M c := fun c hc z => by have := hM _ z; unfold trM at this; omega
  have n := hf 487 (no _ (by decide))
  have n8 := hf 488 (no _ (by decide))
  have n9 := hf 489 (no _ (by decide))
  have n0 := hf 490 (no _ (by decide))
  have n1 := hf 491 (no _ (by decide))
  have nS : ∀ k, cS ≤ k → k < cS + 8 → ¬ M k := fun k a b z => by have := hM _ z; have q := h2.1; unfold trM at this; omega
  have nT : ∀ k, cT ≤ k → k < cT + 8 → ¬ M k := fun k a b z => by have := hM _ z; have q := h2.2; unfold trM at this; omega
  exact ⟨⟨by rw [n.2.2]; exact e1, by rw [n.2.2]; exact e2⟩, ⟨to_fr t1 hf nS, to_fr t2 hf nT⟩, ⟨by rw [n.1]; exact r1, r2, fun k hk => by rw [n8.1, n9.1]; exact r3 k hk⟩, ⟨by rw [n.1]; exact k1, by rw [n.1]; exact k2, by rw [n.2.1]; exact k3, by rw [n.1]; exact k4, k5, fun k hk => by rw [n0.1, n1.1]; exact k6 k hk⟩, by rw [n.1]; exact o, fr_tr f (fr_mono hf (fun k z => by rcases hM k z with y | y; exact Or.inl y; exact Or.inr (Or.inl y))), hG⟩
theorem prA_snoc {L : List (Int × Int)} {x : Int × Int} {k : Nat} : prA (L ++ [x]) k = if k = L.length then x else prA L k := by
  unfold prA
  rw [List.getD_eq_getElem?_getD, List.getD_eq_getElem?_getD]
  by_cases c : k = L.length
  · subst c
    simp
  · rw [if_neg c]
    by_cases l : k < L.length
    · rw [List.getElem?_append_left l]
    · rw [List.getElem?_eq_none (by rw [List.length_append, List.length_singleton]; omega), List.getElem?_eq_none (by omega)]
abbrev bo (b : Bool) : Int := if b = true then 1 else 0
theorem ck_complain {muted : Bool} {node w : Int} (h2 : dkc cS ∧ dkc cT) (hn : inr node) (hw : inr w) (h : CkS cS cT Sc T most refs K S0 S) : Ev (fun n => f_X0_complain n d 0 S [node, w, bo muted]) (fun _ S1 => CkS cS cT Sc T most refs (ckC K muted node w) S0 S1) := by
  obtain ⟨⟨e1, e2⟩, ⟨t1, t2⟩, ⟨r1, r2, r3⟩, ⟨k1, k2, k3, k4, k5, k6⟩, o, f, g⟩ := id h
  have nS : ∀ k, cS ≤ k → k < cS + 8 → k < 424 := fun k a b => by have q := h2.1; omega
  have nT : ∀ k, cT ≤ k → k < cT + 8 → k < 424 := fun k a b => by have q := h2.2; omega
  refine ev_up (fun n => e_X0_complain_0) ?_
  unfold b_X0_complain_0
  unfold ckC
  cases muted with
  | true =>
    rw [if_pos rfl]
    refine ev_gg (by decide) ?_
    refine ev_ite (fun z => absurd z (by decide)) (fun _ => ?_)
    exact ev_ret h
  | false =>
    rw [if_neg (show ¬ (false = true) by decide)]
    refine ev_gg (by decide) ?_
    refine ev_ite (fun _ => ?_) (fun z => absurd rfl z)
    refine ev_gv ?_
    rw [k4]
    refine ev_gg (by constructor <;> omega) ?_
    refine ev_ite (fun z => by omega) (fun _ => ?_)
    refine ev_gv ?_
    refine ev_gg (by constructor <;> omega) ?_
    by_cases c : K.2.2.length < 1000
    · rw [if_pos c]
      refine ev_ite (fun _ => ?_) (fun z => by omega)
      refine ev_gv ?_
      refine ev_gg (by omega) ?_
      refine ev_gv ?_
      refine ev_gv ?_
      rw [show (gI S 490 (K.2.2.length : Int).toNat node).1 487 12 = (K.2.2.length : Int) by rw [gI_c (by decide), k4]]
      refine ev_gg (by omega) ?_
      refine ev_gv ?_
      refine ev_gv ?_
      rw [show (gI (gI S 490 (K.2.2.length : Int).toNat node) 491 (K.2.2.length : Int).toNat w).1 487 12 = (K.2.2.length : Int) by rw [gI_c (by decide), gI_c (by decide), k4]]
      refine ev_gv ?_
      refine ev_gv ?_
      rw [Int.toNat_natCast]
      have fr : Fr (fun k => k = 487 ∨ k = 490 ∨ k = 491) S (gI (gI (gI S 490 K.2.2.length node) 491 K.2.2.length w) 487 12 ((K.2.2.length : Int) + 1)) := fr_tr (fr_gI (Or.inr (Or.inl rfl))) (fr_tr (fr_gI (Or.inr (Or.inr rfl))) (fr_gI (Or.inl rfl)))
      refine ev_ret ⟨⟨e1, e2⟩, ⟨to_fr t1 fr (fun k a b => by have := nS k a b; omega), to_fr t2 fr (fun k a b => by have := nT k a b; omega)⟩, ⟨?_, r2, fun k hk => ?_⟩, ⟨?_, ?_, k3, ?_, ?_, fun k hk => ?_⟩, ?_, fr_tr f (fr_mono fr (fun k z => by unfold ckM; omega)), good_gI (good_gI (good_gI g hn (fun q => by unfold isC at q; omega)) hw (fun q => by unfold isC at q; omega)) (by constructor <;> omega) (fun q => by unfold isC at q; omega)⟩
      · rw [gI_k (by decide), gI_c (by decide), gI_c (by decide)]; exact r1
      · rw [gI_c (by decide), gI_c (by decide), gI_c (by decide), gI_c (by decide), gI_c (by decide), gI_c (by decide)]; exact r3 k hk
      · rw [gI_k (by decide), gI_c (by decide), gI_c (by decide)]; exact k1
      · rw [gI_k (by decide), gI_c (by decide), gI_c (by decide)]; exact k2
      · rw [gI_a, List.length_append]; rfl
      · show (K.2.2 ++ [(node, w)]).length ≤ 1000; rw [List.length_append, List.length_singleton]; omega
      · have hk' : k < (K.2.2 ++ [(node, w)]).length := hk
        rw [List.length_append, List.length_singleton] at hk'
        show _ = (prA (K.2.2 ++ [(node, w)]) k).1 ∧ _ = (prA (K.2.2 ++ [(node, w)]) k).2
        have a0 : (gI (gI (gI S 490 K.2.2.length node) 491 K.2.2.length w) 487 12 ((K.2.2.length : Int) + 1)).1 490 k = (gI S 490 K.2.2.length node).1 490 k := by rw [gI_c (by decide), gI_c (by decide)]
        have a1 : (gI (gI (gI S 490 K.2.2.length node) 491 K.2.2.length w) 487 12 ((K.2.2.length : Int) + 1)).1 491 k = (gI (gI S 490 K.2.2.length node) 491 K.2.2.length w).1 491 k := by rw [gI_c (by decide)]
        rw [prA_snoc, a0, a1]
        by_cases e : k = K.2.2.length
        · rw [if_pos e, e, gI_a, gI_a]
          exact ⟨rfl, rfl⟩
        · rw [if_neg e, gI_k e, gI_k e, gI_c (by decide)]
          exact k6 k (by omega)
      · rw [gI_k (by decide), gI_c (by decide), gI_c (by decide)]; exact o
    · rw [if_neg c]
      refine ev_ite (fun z => by omega) (fun _ => ?_)
      refine ev_gv ?_
      have fr : Fr (fun k => k = 487) S (gB S 487 16 (decide ((1 : Int) = 1))) := fr_gB rfl
      exact ev_ret ⟨⟨e1, e2⟩, ⟨to_fr t1 fr (fun k a b => by have := nS k a b; omega), to_fr t2 fr (fun k a b => by have := nT k a b; omega)⟩, ⟨r1, r2, r3⟩, ⟨k1, k2, by rw [gB_a]; rfl, k4, k5, k6⟩, o, fr_tr f (fr_mono fr (fun k z => by unfold ckM; omega)), g⟩
theorem ck_kindOf {k : Int} (hk : inr k) : Rd (fun n => f_X0_kindOf n d 0 S [k]) ((kdW k : Nat) : Int) S := by
  refine ev_up (fun n => e_X0_kindOf_0) ?_
  unfold b_X0_kindOf_0
  refine ev_gg hk ?_
  unfold kdW
  refine ev_ite (fun z => by rw [if_pos z]; exact ev_ret ⟨rfl, rfl⟩) (fun z => ?_)
  rw [if_neg z]
  refine ev_ite (fun z => by rw [if_pos z]; exact ev_ret ⟨rfl, rfl⟩) (fun z => ?_)
  rw [if_neg z]
  refine ev_ite (fun z => by rw [if_pos z]; exact ev_ret ⟨rfl, rfl⟩) (fun z => ?_)
  rw [if_neg z]
  refine ev_ite (fun z => by rw [if_pos z]; exact ev_ret ⟨rfl, rfl⟩) (fun z => ?_)
  rw [if_neg z]
  refine ev_ite (fun z => by rw [if_pos z]; exact ev_ret ⟨rfl, rfl⟩) (fun z => ?_)
  rw [if_neg z]
  exact ev_ret ⟨rfl, rfl⟩
theorem kdW_r (k : Int) : kdW k < 54 := by
  unfold kdW
  split
  · decide
  · split
    · decide
    · split
      · decide
      · split
        · decide
        · split <;> decide
theorem ck_wordOf {w : Nat} (h1 : 1 ≤ w ∧ w ≤ 15) : Rd (fun n => f_X0_wordOf n d 0 S [(w : Int)]) ((30 + w : Nat) : Int) S := by
  have step : ∀ {k : Nat} {v : Int} {m : Nat → Option (Int × GS)}, v = ((30 + k : Nat) : Int) → (w ≠ k → Rd m ((30 + w : Nat) : Int) S) → Rd (fun n => if (w : Int) = (k : Int) then some (v, S) else m n) ((30 + w : Nat) : Int) S := by
    intro k v m hv hm
    refine ev_ite (fun z => ev_ret ⟨by rw [hv]; omega, rfl⟩) (fun z => hm (by omega))
  refine ev_up (fun n => e_X0_wordOf_0) ?_
  unfold b_X0_wordOf_0
  refine ev_gg (by constructor <;> omega) ?_
  refine step (k := 1) rfl (fun _ => ?_)
  refine step (k := 2) rfl (fun _ => ?_)
  refine step (k := 3) rfl (fun _ => ?_)
  refine step (k := 4) rfl (fun _ => ?_)
  refine step (k := 5) rfl (fun _ => ?_)
  refine step (k := 6) rfl (fun _ => ?_)
  refine step (k := 7) rfl (fun _ => ?_)
  refine step (k := 8) rfl (fun _ => ?_)
  refine step (k := 9) rfl (fun _ => ?_)
  refine step (k := 10) rfl (fun _ => ?_)
  refine step (k := 11) rfl (fun _ => ?_)
  refine step (k := 12) rfl (fun _ => ?_)
  refine step (k := 13) rfl (fun _ => ?_)
  refine step (k := 14) rfl (fun _ => ?_)
  exact ev_ret ⟨by omega, rfl⟩
theorem ck_isOfKind {c : Int} {node : Nat} (h2 : dkc cS ∧ dkc cT) (hd : 6 ≤ d) (h : CkS cS cT Sc T most refs K S0 S) (hc : 0 ≤ c ∧ c < (Sc.length : Int)) (hn : node < T.length) : Rd (fun n => f_X0_isOfKind n d 0 S [c, (node : Int)]) (bo (okK Sc T node c.toNat)) S := by
  have lS : Sc.length ≤ 100 := tv_l h.2.1.1.1
  have lT : T.length ≤ 100 := tv_l h.2.1.2.1
  have ic : ((c.toNat : Nat) : Int) = c := by omega
  have kn : kdI T (node : Int) = nk T node := kd_nat hn
  refine ev_up (fun n => e_X0_isOfKind_0) ?_
  unfold b_X0_isOfKind_0
  rw [h.1.1]
  refine ev_gv ?_
  refine ev_gg (by omega) ?_
  refine ev_gg h2.1.1 ?_
  refine ev_gcr (t_says (d := d - 1) (t := 46) h2.1.1 (by decide) (by omega) h.2.1.1.1 (by constructor <;> omega)) ?_
  unfold okK
  rw [ic]
  by_cases c1 : saysP Sc c 46
  · rw [if_pos c1, if_pos c1]
    refine ev_gg (by decide) ?_
    refine ev_ite (fun z => absurd z (by decide)) (fun _ => ?_)
    rw [h.1.2]
    refine ev_gv ?_
    refine ev_gg h2.2.1 ?_
    refine ev_gcr (rd_as (t_is (S := S) (V := T) (d := d - 1) (i := (node : Int)) (k := 2) h2.2.1 h.2.1.2.1 (by constructor <;> omega) (by decide)) (is_kd (by decide))) ?_
    rw [kn]
    by_cases c2 : nk T node = 2
    · rw [if_pos c2]
      refine ev_gg (by decide) ?_
      refine ev_ite (fun z => absurd z (by decide)) (fun _ => ?_)
      have pr := pwI_r (V := T) h.2.1.2.1 (node : Int)
      rw [h.1.2]
      refine ev_gv ?_
      refine ev_gg h2.2.1 ?_
      refine ev_gcr (t_power (V := T) (d := d - 1) (i := (node : Int)) h2.2.1 h.2.1.2.1 (by omega) (by constructor <;> omega)) ?_
      refine ev_gg (by constructor <;> omega) ?_
      refine ev_ite (fun z => ?_) (fun z => ?_)
      · rw [decide_eq_false (fun w => by omega)]
        exact ev_ret ⟨rfl, rfl⟩
      · rw [decide_eq_true (⟨c2, by omega⟩ : nk T node = 2 ∧ 0 ≤ pwI T (node : Int))]
        exact ev_ret ⟨rfl, rfl⟩
    · rw [if_neg c2, decide_eq_false (fun w => c2 w.1)]
      refine ev_gg (by decide) ?_
      refine ev_ite (fun _ => ?_) (fun z => absurd rfl z)
      exact ev_ret ⟨rfl, rfl⟩
  · rw [if_neg c1, if_neg c1]
    refine ev_gg (by decide) ?_
    refine ev_ite (fun _ => ?_) (fun z => absurd rfl z)
    rw [h.1.1, h.1.2]
    refine ev_gv ?_
    refine ev_gv ?_
    refine ev_gg h2.2.1 ?_
    refine ev_gcr (rd_as (t_kind (d := d - 1) (i := (node : Int)) h2.2.1 h.2.1.2.1 (by constructor <;> omega)) kn) ?_
    have nr := tv_r h.2.1.2.1 hn
    have kr : 0 ≤ nk T node ∧ nk T node ≤ 5 := ⟨nr.1, nr.2.1⟩
    refine ev_gcr (ck_kindOf (d := d - 1) (k := nk T node) (by constructor <;> omega)) ?_
    refine ev_gg h2.1.1 ?_
    rw [Int.toNat_natCast]
    refine ev_gcr (t_says (d := d - 1) (t := kdW (nk T node)) h2.1.1 (kdW_r _) (by omega) h.2.1.1.1 (by constructor <;> omega)) ?_
    by_cases c2 : saysP Sc c (kdW (nk T node))
    · rw [if_pos c2, decide_eq_true c2]
      refine ev_gg (by decide) ?_
      exact ev_ret ⟨rfl, rfl⟩
    · rw [if_neg c2, decide_eq_false c2]
      refine ev_gg (by decide) ?_
      exact ev_ret ⟨rfl, rfl⟩
end CKL
