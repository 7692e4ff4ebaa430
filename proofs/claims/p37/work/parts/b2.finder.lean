/-! PATHS: the Finder of the class -/
def mtA (L : List Nat) (x : Nat) : List Nat := if x ∈ L then L else L ++ [x]
def mtI (L : List Nat) (x : Int) : List Nat := if 0 ≤ x then mtA L x.toNat else L
/-- NODES, none twice -/
def FdL (n : Nat) (L : List Nat) : Prop := L.Nodup ∧ ∀ x ∈ L, x < n
theorem nodup_len : ∀ (n : Nat) (L : List Nat), L.Nodup → (∀ x ∈ L, x < n) → L.length ≤ n
  | 0, L, _, h => by
    cases L with
    | nil => exact Nat.le_refl _
    | cons x L => exact absurd (h x List.mem_cons_self) (by omega)
  | n + 1, L, hn, h => by
    by_cases c : n ∈ L
    · have e := List.length_erase_of_mem c
      have k := nodup_len n (L.erase n) (hn.erase n) (fun x hx => by
        have := h x (List.mem_of_mem_erase hx)
        have ne : x ≠ n := fun z => by
          rw [z] at hx
          exact (List.Nodup.not_mem_erase hn) hx
        omega)
      have : 0 < L.length := List.length_pos_of_mem c
      omega
    · have k := nodup_len n L hn (fun x hx => by
        have := h x hx
        have ne : x ≠ n := fun z => c (z ▸ hx)
        omega)
      omega
theorem fdL_A {n : Nat} {L : List Nat} {x : Nat} (h : FdL n L) (hx : x < n) : FdL n (mtA L x) := by
  unfold mtA
  split
  · exact h
  · rename_i c
    refine ⟨?_, fun y hy => ?_⟩
    · rw [List.nodup_append]
      refine ⟨h.1, by simp, fun a ha b hb => ?_⟩
      simp only [List.mem_cons, List.not_mem_nil, or_false] at hb
      rw [hb]
      exact fun z => c (z ▸ ha)
    · rcases List.mem_append.mp hy with w | w
      · exact h.2 y w
      · simp only [List.mem_cons, List.not_mem_nil, or_false] at w
        omega
def plW (V : List ND) (g : Nat) (w : List Int) : Int := if hdI w = 45 then (if plN (w.drop 1) ≤ 0 then -1 else ((kids V g).length : Int) - plN (w.drop 1)) else plN w
/-- whether a VALUE is a MAP with the KEY to what is written so -/
def mchS (V : List ND) (w : List Int) (c : Nat) : Bool := decide (plF 61 w 0 ≠ -1) && (decide (vLk V (c : Int) ((w.take (plF 61 w 0).toNat).drop 1) ≠ -1) && decide (w.drop (plF 61 w 0 + 1).toNat = wrF 12 0 0 (sg V (vLk V (c : Int) ((w.take (plF 61 w 0).toNat).drop 1)).toNat)))
def stpN (V : List ND) (w : List Int) (g : Nat) : Int := if nk V g = 4 then atK (kids V g) (plW V g w) else vLk V (g : Int) w
/-- what a STEP finds from a NODE -/
def stC (V : List ND) (w : List Int) (g : Nat) : List Nat :=
  if w = sx 18 then List.range' g (nz V g)
  else if w = sx 19 then kids V g
  else if hdI w = 63 then (kids V g).filter (mchS V w)
  else if stpN V w g = -1 then [] else [(stpN V w g).toNat]
def skS (V : List ND) (w : List Int) (L : List Nat) : List Nat := (L.flatMap (stC V w)).foldl mtA []
def skF (l : List Int) (V : List ND) : Nat → Nat → List Nat → List Nat
  | 0, _, L => L
  | f + 1, i, L => skF l V f (i + 1) (skS V (wdA l i) L)
/-- all that a PATH finds -/
def seekL (l : List Int) (V : List ND) : List Nat := skF l V (nW l) 0 [0]
/-- the Finder that holds so many NODES -/
def FsL (L : List Nat) (S : GS) : Prop := S.1 473 6 = (L.length : Int) ∧ (∀ k, k < L.length → S.1 474 k = (L.getD k 0 : Int)) ∧ ∀ i, i < 100 → S.2.1 476 i = decide (i ∈ L)
abbrev fnM : Nat → Prop := fun k => k = 473 ∨ k = 474 ∨ k = 476
abbrev fnA : Nat → Prop := fun k => k = 473 ∨ k = 474 ∨ k = 476 ∨ (440 ≤ k ∧ k < 446)
abbrev skM : Nat → Prop := fun k => fnA k ∨ k = 475
section FN
variable {S S0 : GS} {d : Nat} {L : List Nat}
theorem fs_fr {S1 : GS} {M : Nat → Prop} (h : FsL L S) (hf : Fr M S S1) (h1 : ¬ M 473) (h2 : ¬ M 474) (h3 : ¬ M 476) : FsL L S1 := by
  obtain ⟨e1, e2, e3⟩ := h
  exact ⟨by rw [(hf _ h1).1]; exact e1, fun k hk => by rw [(hf _ h2).1]; exact e2 k hk, fun i hi => by rw [(hf _ h3).2.1]; exact e3 i hi⟩
theorem fn_meet {x : Int} {n : Nat} (h : FsL L S) (hG : Good S) (hx : x = -1 ∨ (0 ≤ x ∧ x < (n : Int))) (hn : n ≤ 100) (hL : FdL n L) : Ev (fun m => f_X2_meet m d 0 S [x]) (fun _ S1 => FsL (mtI L x) S1 ∧ Fr fnM S S1 ∧ Good S1) := by
  have ll := nodup_len n L hL.1 hL.2
  obtain ⟨h1, h2, h3⟩ := h
  unfold mtI
  by_cases c : 0 ≤ x
  · rw [if_pos c]
    have b3 := h3 x.toNat (by omega)
    unfold mtA
    by_cases cm : x.toNat ∈ L
    · rw [if_pos cm]
      have bb : bi (S.2.1 476 x.toNat) = 1 := by rw [b3, decide_eq_true cm]; rfl
      refine ev_up (fun n => e_X2_meet_0) ?_
      unfold b_X2_meet_0
      rw [bb]
      repeat' (first
        | with_reducible refine ev_gv ?_
        | with_reducible refine ev_gg ?_ ?_
        | with_reducible refine ev_ite (fun _ => ?_) (fun _ => ?_)
        | omega
        | assumption)
      all_goals exact ev_ret ⟨⟨h1, h2, h3⟩, fr_rf, hG⟩
    · rw [if_neg cm]
      have bb : bi (S.2.1 476 x.toNat) = 0 := by rw [b3, decide_eq_false cm]; rfl
      have l1 : L.length < 100 := by
        have fa := fdL_A (x := x.toNat) hL (by omega)
        have := nodup_len n _ fa.1 fa.2
        unfold mtA at this
        rw [if_neg cm] at this
        simp at this
        omega
      have r1 : ∀ y, (gB S 476 x.toNat y).1 473 6 = S.1 473 6 := fun _ => rfl
      have r2 : ∀ y, (gI (gB S 476 x.toNat y) 474 (S.1 473 6).toNat x).1 473 6 = S.1 473 6 := fun y => gI_c (by decide)
      refine ev_up (fun n => e_X2_meet_0) ?_
      unfold b_X2_meet_0
      rw [bb]
      repeat' (first
        | with_reducible refine ev_gv ?_
        | with_reducible refine ev_gg ?_ ?_
        | with_reducible refine ev_ite (fun _ => ?_) (fun _ => ?_)
        | omega
        | assumption)
      · show 0 ≤ S.1 473 6 ∧ S.1 473 6 < ((100 : Nat) : Int) ∧ S.1 473 6 < 2147483648
        omega
      refine ev_ret ⟨⟨?_, ?_, ?_⟩, ?_, ?_⟩
      · rw [gI_a, gI_c (by decide)]
        show S.1 473 6 + 1 = _
        rw [h1]; simp
      · intro k hk
        simp only [List.length_append, List.length_cons, List.length_nil] at hk
        have ep : ((gB S 476 x.toNat (decide ((1 : Int) = 1))).1 473 6).toNat = L.length := by show (S.1 473 6).toNat = _; omega
        rw [gI_c (by decide), ep]
        by_cases q : k = L.length
        · subst q
          rw [gI_a, List.getD_eq_getElem?_getD, List.getElem?_append_right (Nat.le_refl _)]
          simp
          omega
        · rw [gI_k (by omega)]
          show S.1 474 k = _
          rw [h2 k (by omega), List.getD_eq_getElem?_getD, List.getD_eq_getElem?_getD, List.getElem?_append_left (by omega)]
      · intro i hi
        show (gB S 476 x.toNat _).2.1 476 i = _
        by_cases q : i = x.toNat
        · subst q
          rw [gB_a]
          simp
        · rw [gB_k q, h3 i hi]
          simp [q]
      · exact fr_tr (fr_gB (Or.inr (Or.inr rfl))) (fr_tr (fr_gI (Or.inr (Or.inl rfl))) (fr_gI (Or.inl rfl)))
      · have e9 : (gI (gB S 476 x.toNat (decide ((1 : Int) = 1))) 474 ((gB S 476 x.toNat (decide ((1 : Int) = 1))).1 473 6).toNat x).1 473 6 = S.1 473 6 := gI_c (by decide)
        exact good_gI (good_gI (good_gB hG) (by constructor <;> omega) (fun q => by unfold isC at q; omega)) (by rw [e9]; constructor <;> omega) (fun q => by unfold isC at q; omega)
  · rw [if_neg c]
    refine ev_up (fun n => e_X2_meet_0) ?_
    unfold b_X2_meet_0
    repeat' (first
      | with_reducible refine ev_gv ?_
      | with_reducible refine ev_gg ?_ ?_
      | with_reducible refine ev_ite (fun _ => ?_) (fun _ => ?_)
      | omega
      | assumption)
    all_goals exact ev_ret ⟨⟨h1, h2, h3⟩, fr_rf, hG⟩
theorem fn_begin7 : ∀ (m i : Nat) (S : GS), 100 - i < m → i ≤ 100 → S.1 473 6 = 0 → (∀ j, j < i → S.2.1 476 j = false) → Fr fnM S0 S → Good S → Ev (fun n => f_X2_begin n d 7 S [(i : Int)]) (fun _ S1 => FsL [] S1 ∧ Fr fnM S0 S1 ∧ Good S1) := by
  intro m
  induction m with
  | zero => intros; omega
  | succ m ih =>
    intro i S h1 h2 h3 h4 hf hG
    by_cases c : i < 100
    · refine ev_up (fun n => e_X2_begin_7) ?_
      unfold b_X2_begin_7
      repeat' (first
        | with_reducible refine ev_gv ?_
        | with_reducible refine ev_gg ?_ ?_
        | with_reducible refine ev_ite (fun _ => ?_) (fun _ => ?_)
        | omega
        | assumption)
      rw [show (i : Int) + 1 = ((i + 1 : Nat) : Int) by omega, show ((i : Int)).toNat = i from Int.toNat_natCast i]
      refine ih (i + 1) _ (by omega) (by omega) h3 (fun j hj => ?_) (fr_tr hf (fr_gB (Or.inr (Or.inr rfl)))) (good_gB hG)
      by_cases q : j = i
      · subst q; rw [gB_a]; decide
      · rw [gB_k q]; exact h4 j (by omega)
    · refine ev_up (fun n => e_X2_begin_7) ?_
      unfold b_X2_begin_7
      repeat' (first
        | with_reducible refine ev_gv ?_
        | with_reducible refine ev_gg ?_ ?_
        | with_reducible refine ev_ite (fun _ => ?_) (fun _ => ?_)
        | omega
        | assumption)
      exact ev_ret ⟨⟨h3, fun k hk => by simp at hk, fun i hi => by rw [h4 i (by omega)]; simp⟩, hf, hG⟩
theorem fn_begin (hG : Good S) : Ev (fun n => f_X2_begin n d 0 S []) (fun _ S1 => FsL [] S1 ∧ Fr fnM S S1 ∧ Good S1) := by
  refine ev_up (fun n => e_X2_begin_0) ?_
  unfold b_X2_begin_0
  refine ev_gv ?_
  exact fn_begin7 101 0 _ (by omega) (by omega) gI_a (fun j hj => by omega) (fr_gI (Or.inl rfl)) (good_gI hG (by decide) (fun q => by unfold isC at q; omega))
theorem mtI_nat {L : List Nat} {x : Nat} : mtI L (x : Int) = mtA L x := by
  unfold mtI
  rw [if_pos (by omega), Int.toNat_natCast]
end FN
