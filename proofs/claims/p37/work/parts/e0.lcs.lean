/-! PATCHES: the longest COMMON VALUES of two ROWS -/
def lcF (eq : Nat → Nat → Bool) (n m : Nat) : Nat → Nat → Nat → Nat
  | 0, _, _ => 0
  | f + 1, a, b => if n ≤ a ∨ m ≤ b then 0 else if eq a b then lcF eq n m f (a + 1) (b + 1) + 1 else max (lcF eq n m f (a + 1) b) (lcF eq n m f a (b + 1))
theorem lcF_f {eq : Nat → Nat → Bool} {n m : Nat} : ∀ (f g a b : Nat), (n - a) + (m - b) < f → (n - a) + (m - b) < g → lcF eq n m f a b = lcF eq n m g a b
  | 0, _, _, _, h, _ => by omega
  | _, 0, _, _, _, h => by omega
  | f + 1, g + 1, a, b, h1, h2 => by
    unfold lcF
    by_cases c : n ≤ a ∨ m ≤ b
    · rw [if_pos c, if_pos c]
    · rw [if_neg c, if_neg c, lcF_f f g (a + 1) (b + 1) (by omega) (by omega), lcF_f f g (a + 1) b (by omega) (by omega), lcF_f f g a (b + 1) (by omega) (by omega)]
/-- how many pairs can be COMMON from two places on -/
def lcV (eq : Nat → Nat → Bool) (n m a b : Nat) : Nat := lcF eq n m (n + m + 1) a b
theorem lcV_0 {eq : Nat → Nat → Bool} {n m a b : Nat} (h : n ≤ a ∨ m ≤ b) : lcV eq n m a b = 0 := if_pos h
theorem lcV_s {eq : Nat → Nat → Bool} {n m a b : Nat} (h : a < n ∧ b < m) : lcV eq n m a b = if eq a b then lcV eq n m (a + 1) (b + 1) + 1 else max (lcV eq n m (a + 1) b) (lcV eq n m a (b + 1)) := by
  unfold lcV
  rw [show lcF eq n m (n + m + 1) a b = if n ≤ a ∨ m ≤ b then 0 else if eq a b then lcF eq n m (n + m) (a + 1) (b + 1) + 1 else max (lcF eq n m (n + m) (a + 1) b) (lcF eq n m (n + m) a (b + 1)) from rfl]
  rw [if_neg (by omega), lcF_f (n + m) (n + m + 1) (a + 1) (b + 1) (by omega) (by omega), lcF_f (n + m) (n + m + 1) (a + 1) b (by omega) (by omega), lcF_f (n + m) (n + m + 1) a (b + 1) (by omega) (by omega)]
theorem lcV_le {eq : Nat → Nat → Bool} {n m : Nat} : ∀ (k a b : Nat), (n - a) + (m - b) ≤ k → lcV eq n m a b ≤ n - a
  | 0, a, b, h => by rw [lcV_0 (by omega)]; omega
  | k + 1, a, b, h => by
    by_cases c : a < n ∧ b < m
    · have h1 := lcV_le (eq := eq) (n := n) (m := m) k (a + 1) (b + 1) (by omega)
      have h2 := lcV_le (eq := eq) (n := n) (m := m) k (a + 1) b (by omega)
      have h3 := lcV_le (eq := eq) (n := n) (m := m) k a (b + 1) (by omega)
      rw [lcV_s c]
      split <;> omega
    · rw [lcV_0 (by omega)]; omega
/-- the pairs, told -/
def mkP (eq : Nat → Nat → Bool) (n m : Nat) : Nat → Nat → Nat → List (Nat × Nat)
  | 0, _, _ => []
  | f + 1, a, b => if n ≤ a ∨ m ≤ b then [] else if eq a b then (a, b) :: mkP eq n m f (a + 1) (b + 1) else if lcV eq n m (a + 1) b = lcV eq n m a b then mkP eq n m f (a + 1) b else mkP eq n m f a (b + 1)
theorem mkP_s {eq : Nat → Nat → Bool} {n m f a b : Nat} : mkP eq n m (f + 1) a b = if n ≤ a ∨ m ≤ b then [] else if eq a b then (a, b) :: mkP eq n m f (a + 1) (b + 1) else if lcV eq n m (a + 1) b = lcV eq n m a b then mkP eq n m f (a + 1) b else mkP eq n m f a (b + 1) := rfl
section LCS
variable {S S0 : GS} {cA cB d : Nat} {V U : List ND}
theorem or_gather {g dst : Nat} (hc : gT cA) (hd : 2 ≤ d) (hv : TV S cA V) (hw : WF V) (hg : g < V.length) (hdst : dst = 480 ∨ dst = 481) (hG : Good S) : Ev (fun n => f_X5_gather n d 0 S [((cA : Nat) : Int), (g : Int), ((dst : Nat) : Int)]) (fun x S1 => x = ((kids V g).length : Int) ∧ (∀ k, k < (kids V g).length → S1.1 dst k = ((kids V g).getD k 0 : Int)) ∧ Fr (fun k => k = dst) S S1 ∧ Good S1) := by
  have hz := pz_l (nr_pzl hv.2.2.2)
  have lV : V.length ≤ 100 := tv_l hv
  have wg := hw.1 g hg
  have zg := hz g
  have loop : ∀ (m i : Nat) (K0 : List Nat) (S1 : GS), g + nz V g - i < m → g < i → kids V g = K0 ++ ks V i (g + nz V g) → (∀ k, k < K0.length → S1.1 dst k = (K0.getD k 0 : Int)) → K0.length + (g + nz V g - i) ≤ 99 → Fr (fun k => k = dst) S S1 → Good S1 → Ev (fun n => f_X5_gather n d 9 S1 [((cA : Nat) : Int), (g : Int), ((dst : Nat) : Int), (K0.length : Int), cur i (g + nz V g)]) (fun x S1 => x = ((kids V g).length : Int) ∧ (∀ k, k < (kids V g).length → S1.1 dst k = ((kids V g).getD k 0 : Int)) ∧ Fr (fun k => k = dst) S S1 ∧ Good S1) := by
    intro m
    induction m with
    | zero => intros; omega
    | succ m ih =>
      intro i K0 S1 h1 h2 h3 h4 h5 hF hG1
      by_cases hi : i < g + nz V g
      · have wi := hw.2.1 g i h2 hi
        have zi := hz i
        rw [ks_cons hz hi] at h3
        have v1 : TV (gI S1 dst K0.length (i : Int)) cA V := tv_fr (tv_fr hv hF (fun k a b => by omega)) (fr_gI (M := fun k => k = dst) rfl) (fun k a b => by omega)
        rw [show cur i (g + nz V g) = (i : Int) from if_pos hi]
        refine ev_up (fun n => e_X5_gather_9) ?_
        unfold b_X5_gather_9
        repeat' (first
          | with_reducible refine ev_gv ?_
          | with_reducible refine ev_gg ?_ ?_
          | with_reducible refine ev_ite (fun _ => ?_) (fun _ => ?_)
          | omega
          | assumption)
        rw [Int.toNat_natCast]
        refine ev_gcr (t_next (d := d - 1) hc v1 hw h2 hi hg) ?_
        have k := ih (i + nz V i) (K0 ++ [i]) (gI S1 dst K0.length (i : Int)) (by omega) (by omega) (by rw [h3]; simp) (fun k hk => by
          simp only [List.length_append, List.length_cons, List.length_nil] at hk
          by_cases q : k = K0.length
          · subst q
            rw [gI_a, List.getD_eq_getElem?_getD, List.getElem?_append_right (Nat.le_refl _)]
            simp
          · rw [gI_k q, h4 k (by omega), List.getD_eq_getElem?_getD, List.getD_eq_getElem?_getD, List.getElem?_append_left (by omega)]) (by simp; omega) (fr_tr hF (fr_gI rfl)) (good_gI hG1 (by constructor <;> omega) (fun q => by unfold isC at q; omega))
        rw [show ((K0 ++ [i]).length : Int) = (K0.length : Int) + 1 by simp] at k
        exact k
      · rw [ks_nil (by omega), List.append_nil] at h3
        rw [show cur i (g + nz V g) = -1 from if_neg hi]
        refine ev_up (fun n => e_X5_gather_9) ?_
        unfold b_X5_gather_9
        repeat' (first
          | with_reducible refine ev_gv ?_
          | with_reducible refine ev_gg ?_ ?_
          | with_reducible refine ev_ite (fun _ => ?_) (fun _ => ?_)
          | omega
          | assumption)
        rw [h3]
        exact ev_ret ⟨rfl, h4, hF, hG1⟩
  refine ev_up (fun n => e_X5_gather_0) ?_
  unfold b_X5_gather_0
  refine ev_gg (by omega) ?_
  refine ev_gg hc ?_
  refine ev_gcr (t_first (d := d - 1) hc hv hw hg) ?_
  exact loop (g + nz V g) (g + 1) [] S (by omega) (by omega) rfl (fun k hk => by simp at hk) (by simp; omega) fr_rf hG
/-- the rows of two ROWS' VALUES, and the trees -/
def RwS (cA cB : Nat) (V U : List ND) (K1 K2 : List Nat) (S : GS) : Prop := S.2.2 477 6 = cA ∧ S.2.2 477 7 = cB ∧ TV S cA V ∧ TV S cB U ∧ (∀ k, k < K1.length → S.1 480 k = (K1.getD k 0 : Int)) ∧ ∀ k, k < K2.length → S.1 481 k = (K2.getD k 0 : Int)
theorem rw_fr {S1 : GS} {K1 K2 : List Nat} {M : Nat → Prop} (hA : cA < 424) (hB : cB < 424) (hcA : cA % 8 = 0) (hcB : cB % 8 = 0) (h : RwS cA cB V U K1 K2 S) (hf : Fr M S S1) (hM : ∀ k, M k → k = 478 ∨ k = 479) : RwS cA cB V U K1 K2 S1 := by
  obtain ⟨h1, h2, h3, h4, h5, h6⟩ := h
  refine ⟨by rw [(hf 477 (fun z => by have := hM _ z; omega)).2.2]; exact h1, by rw [(hf 477 (fun z => by have := hM _ z; omega)).2.2]; exact h2, tv_fr h3 hf (fun k a b z => by have := hM _ z; omega), tv_fr h4 hf (fun k a b z => by have := hM _ z; omega), fun k hk => by rw [(hf 480 (fun z => by have := hM _ z; omega)).1]; exact h5 k hk, fun k hk => by rw [(hf 481 (fun z => by have := hM _ z; omega)).1]; exact h6 k hk⟩
def eqV (V U : List ND) (K1 K2 : List Nat) (a b : Nat) : Bool := smJ 13 V (K1.getD a 0) U ((K2.getD b 0 : Nat) : Int)
theorem or_match {K1 K2 : List Nat} (hA : gT cA) (hB : gT cB) (hw : WF V) (hw2 : WF U) (hK1 : ∀ k ∈ K1, k < V.length) (hK2 : ∀ k ∈ K2, k < U.length) (l1 : K1.length ≤ 99) (l2 : K2.length ≤ 99) (hd : 31 ≤ d) (h : RwS cA cB V U K1 K2 S) (hG : Good S) : Ev (fun n => f_X5_matchAll n d 0 S [(K1.length : Int), (K2.length : Int)]) (fun _ S1 => (∀ a b, a < K1.length → b < K2.length → S1.2.1 478 (100 * a + b) = eqV V U K1 K2 a b) ∧ RwS cA cB V U K1 K2 S1 ∧ Fr (fun k => k = 478) S S1 ∧ Good S1) := by
  have lV : V.length ≤ 100 := tv_l h.2.2.1
  have lU : U.length ≤ 100 := tv_l h.2.2.2.1
  have main : ∀ (m a b : Nat) (S1 : GS), (K1.length - a) * 200 + (K2.length - b) < m → a ≤ K1.length → b ≤ K2.length → (∀ a' b', (a' < a ∧ b' < K2.length) ∨ (a' = a ∧ b' < b) → S1.2.1 478 (100 * a' + b') = eqV V U K1 K2 a' b') → RwS cA cB V U K1 K2 S1 → Fr (fun k => k = 478) S S1 → Good S1 → (a < K1.length → Ev (fun n => f_X5_matchAll n d 16 S1 [(K1.length : Int), (K2.length : Int), (a : Int), (b : Int)]) (fun _ S1 => (∀ a b, a < K1.length → b < K2.length → S1.2.1 478 (100 * a + b) = eqV V U K1 K2 a b) ∧ RwS cA cB V U K1 K2 S1 ∧ Fr (fun k => k = 478) S S1 ∧ Good S1)) ∧ (b = 0 → Ev (fun n => f_X5_matchAll n d 2 S1 [(K1.length : Int), (K2.length : Int), (a : Int)]) (fun _ S1 => (∀ a b, a < K1.length → b < K2.length → S1.2.1 478 (100 * a + b) = eqV V U K1 K2 a b) ∧ RwS cA cB V U K1 K2 S1 ∧ Fr (fun k => k = 478) S S1 ∧ Good S1)) := by
    intro m
    induction m with
    | zero => intros; omega
    | succ m ih =>
      intro a b S1 h1 ha hb h4 hR hF hG1
      have inner : a < K1.length → Ev (fun n => f_X5_matchAll n d 16 S1 [(K1.length : Int), (K2.length : Int), (a : Int), (b : Int)]) (fun _ S1 => (∀ a b, a < K1.length → b < K2.length → S1.2.1 478 (100 * a + b) = eqV V U K1 K2 a b) ∧ RwS cA cB V U K1 K2 S1 ∧ Fr (fun k => k = 478) S S1 ∧ Good S1) := by
        intro ha'
        by_cases hb' : b < K2.length
        · have e1 := hR.2.2.2.2.1 a ha'
          have e2 := hR.2.2.2.2.2 b hb'
          have i1 := hK1 _ (gDn_mem ha')
          have i2 := hK2 _ (gDn_mem hb')
          have sm := t_same (S := S1) (c := cA) (c2 := cB) (V := V) (U := U) hA hB hR.2.2.1 hR.2.2.2.1 hw hw2 13 (K1.getD a 0) (d - 1) ((K2.getD b 0 : Nat) : Int) (Nat.le_refl _) i1 (by constructor <;> omega) (by omega)
          rw [show (13 : Int) - ((13 : Nat) : Int) = 0 by decide] at sm
          have fr : Fr (fun k => k = 478) S1 (gB S1 478 (100 * a + b) (eqV V U K1 K2 a b)) := fr_gB rfl
          have k := (ih a (b + 1) (gB S1 478 (100 * a + b) (eqV V U K1 K2 a b)) (by omega) ha (by omega) (fun a' b' hh => by
            by_cases q : 100 * a' + b' = 100 * a + b
            · have : a' = a ∧ b' = b := by omega
              rw [this.1, this.2, gB_a]
            · rw [gB_k q]
              exact h4 a' b' (by omega)) (rw_fr (by omega) (by omega) hA.1 hB.1 hR fr (fun k z => by omega)) (fr_tr hF fr) (good_gB hG1)).1 ha'
          refine ev_up (fun n => e_X5_matchAll_16) ?_
          unfold b_X5_matchAll_16
          refine ev_gg (by constructor <;> omega) ?_
          refine ev_gg (by constructor <;> omega) ?_
          refine ev_ite (fun z => by omega) (fun _ => ?_)
          refine ev_ite (fun z => by omega) (fun _ => ?_)
          refine ev_gv ?_
          refine ev_gv ?_
          rw [hR.1, hR.2.1]
          refine ev_gv ?_
          refine ev_gg (by constructor <;> omega) ?_
          rw [Int.toNat_natCast, Int.toNat_natCast, e1]
          refine ev_gv ?_
          refine ev_gv ?_
          refine ev_gg (by constructor <;> omega) ?_
          rw [e2]
          refine ev_gv ?_
          refine ev_gg (by omega) ?_
          refine ev_gg hA ?_
          refine ev_gcr sm ?_
          refine ev_gg (by constructor <;> omega) ?_
          refine ev_gg (by split <;> omega) ?_
          refine ev_gv ?_
          refine ev_gv ?_
          rw [show ((a : Int) * 100 + (b : Int)).toNat = 100 * a + b by omega, dec01]
          rw [show (b : Int) + 1 = ((b + 1 : Nat) : Int) by omega]
          exact k
        · have k := (ih (a + 1) 0 S1 (by omega) (by omega) (Nat.zero_le _) (fun a' b' hh => h4 a' b' (by omega)) hR hF hG1).2 rfl
          refine ev_up (fun n => e_X5_matchAll_16) ?_
          unfold b_X5_matchAll_16
          repeat' (first
            | with_reducible refine ev_gv ?_
            | with_reducible refine ev_gg ?_ ?_
            | with_reducible refine ev_ite (fun _ => ?_) (fun _ => ?_)
            | omega
            | assumption)
          all_goals exact k
      refine ⟨inner, fun hb0 => ?_⟩
      subst hb0
      by_cases ha' : a < K1.length
      · have k := inner ha'
        refine ev_up (fun n => e_X5_matchAll_2) ?_
        unfold b_X5_matchAll_2
        repeat' (first
          | with_reducible refine ev_gv ?_
          | with_reducible refine ev_gg ?_ ?_
          | with_reducible refine ev_ite (fun _ => ?_) (fun _ => ?_)
          | omega
          | assumption)
        all_goals exact k
      · refine ev_up (fun n => e_X5_matchAll_2) ?_
        unfold b_X5_matchAll_2
        repeat' (first
          | with_reducible refine ev_gv ?_
          | with_reducible refine ev_gg ?_ ?_
          | with_reducible refine ev_ite (fun _ => ?_) (fun _ => ?_)
          | omega
          | assumption)
        exact ev_ret ⟨fun a' b' h1 h2 => h4 a' b' (by omega), hR, hF, hG1⟩
  refine ev_up (fun n => e_X5_matchAll_0) ?_
  unfold b_X5_matchAll_0
  exact (main (K1.length * 200 + K2.length + 1) 0 0 S (by omega) (Nat.zero_le _) (Nat.zero_le _) (fun a' b' hh => by omega) h fr_rf hG).2 rfl
def pfV (S : GS) (a b : Int) : Int := if 0 ≤ a ∧ a < 100 ∧ 0 ≤ b ∧ b < 100 then S.1 479 (a * 100 + b).toNat else 0
theorem or_pairs {a b : Int} (ha : inr a) (hb : inr b) : Rd (fun n => f_X5_pairsFrom n d 0 S [a, b]) (pfV S a b) S := by
  unfold pfV
  by_cases c : 0 ≤ a ∧ a < 100 ∧ 0 ≤ b ∧ b < 100
  · rw [if_pos c]
    refine ev_up (fun n => e_X5_pairsFrom_0) ?_
    unfold b_X5_pairsFrom_0
    repeat' (first
      | with_reducible refine ev_gv ?_
      | with_reducible refine ev_gg ?_ ?_
      | with_reducible refine ev_ite (fun _ => ?_) (fun _ => ?_)
      | omega
      | assumption)
    exact ev_ret ⟨rfl, rfl⟩
  · rw [if_neg c]
    refine ev_up (fun n => e_X5_pairsFrom_0) ?_
    unfold b_X5_pairsFrom_0
    repeat' (first
      | with_reducible refine ev_gv ?_
      | with_reducible refine ev_gg ?_ ?_
      | with_reducible refine ev_ite (fun _ => ?_) (fun _ => ?_)
      | omega
      | assumption)
    all_goals exact ev_ret ⟨rfl, rfl⟩
/-- the pairs are counted -/
theorem or_count {eq : Nat → Nat → Bool} {n m : Nat} (hn : n ≤ 99) (hm : m ≤ 99) (hd : 1 ≤ d) (he : ∀ a b, a < n → b < m → S.2.1 478 (100 * a + b) = eq a b) (hG : Good S) : Ev (fun q => f_X5_countPairs q d 0 S [(n : Int), (m : Int)]) (fun _ S1 => (∀ a b, a ≤ n → b ≤ m → S1.1 479 (100 * a + b) = (lcV eq n m a b : Int)) ∧ Fr (fun k => k = 479) S S1 ∧ Good S1) := by
  have main : ∀ (t a b : Nat) (S1 : GS), a * 200 + b < t → a ≤ n + 1 → b ≤ m + 1 → (∀ a' b', a' ≤ n → b' ≤ m → (a ≤ a' ∨ (a' + 1 = a ∧ b ≤ b')) → (a ≤ a' → True) → ((a' + 1 = a ∧ b ≤ b') ∨ a ≤ a') → S1.1 479 (100 * a' + b') = (lcV eq n m a' b' : Int)) → Fr (fun k => k = 479) S S1 → Good S1 → (1 ≤ a → Ev (fun q => f_X5_countPairs q d 19 S1 [(n : Int), (m : Int), (a : Int) - 1, (b : Int) - 1]) (fun _ S1 => (∀ a b, a ≤ n → b ≤ m → S1.1 479 (100 * a + b) = (lcV eq n m a b : Int)) ∧ Fr (fun k => k = 479) S S1 ∧ Good S1)) ∧ (b = m + 1 → Ev (fun q => f_X5_countPairs q d 7 S1 [(n : Int), (m : Int), (a : Int) - 1]) (fun _ S1 => (∀ a b, a ≤ n → b ≤ m → S1.1 479 (100 * a + b) = (lcV eq n m a b : Int)) ∧ Fr (fun k => k = 479) S S1 ∧ Good S1)) := by
    intro t
    induction t with
    | zero => intros; omega
    | succ t ih =>
      intro a b S1 h1 ha hb h4 hF hG1
      have e478 : S1.2.1 478 = S.2.1 478 := (hF 478 (by omega)).2.1
      have inner : 1 ≤ a → Ev (fun q => f_X5_countPairs q d 19 S1 [(n : Int), (m : Int), (a : Int) - 1, (b : Int) - 1]) (fun _ S1 => (∀ a b, a ≤ n → b ≤ m → S1.1 479 (100 * a + b) = (lcV eq n m a b : Int)) ∧ Fr (fun k => k = 479) S S1 ∧ Good S1) := by
        intro ha1
        obtain ⟨a, rfl⟩ : ∃ a', a = a' + 1 := ⟨a - 1, by omega⟩
        rw [show ((a + 1 : Nat) : Int) - 1 = (a : Int) by omega]
        by_cases hb0 : b = 0
        · subst hb0
          have k := (ih a (m + 1) S1 (by omega) (by omega) (Nat.le_refl _) (fun a' b' q1 q2 q3 _ _ => h4 a' b' q1 q2 (by omega) (fun _ => trivial) (by omega)) hF hG1).2 rfl
          refine ev_up (fun n => e_X5_countPairs_19) ?_
          unfold b_X5_countPairs_19
          repeat' (first
            | with_reducible refine ev_gv ?_
            | with_reducible refine ev_gg ?_ ?_
            | with_reducible refine ev_ite (fun _ => ?_) (fun _ => ?_)
            | omega
            | assumption)
          all_goals exact k
        · obtain ⟨b, rfl⟩ : ∃ b', b = b' + 1 := ⟨b - 1, by omega⟩
          rw [show ((b + 1 : Nat) : Int) - 1 = (b : Int) by omega]
          have g9 : ∀ k, inr (S1.1 479 k) := fun k => hG1.1 479 k (by decide)
          have p1 : inr (pfV S1 ((a : Int) + 1) (b : Int)) := by
            unfold pfV
            split
            · exact g9 _
            · decide
          have p2 : inr (pfV S1 (a : Int) ((b : Int) + 1)) := by
            unfold pfV
            split
            · exact g9 _
            · decide
          have put : ∀ x : Int, x = (lcV eq n m a b : Int) → Ev (fun q => f_X5_countPairs q d 94 S1 [(n : Int), (m : Int), (a : Int), (b : Int), x]) (fun _ S1 => (∀ a b, a ≤ n → b ≤ m → S1.1 479 (100 * a + b) = (lcV eq n m a b : Int)) ∧ Fr (fun k => k = 479) S S1 ∧ Good S1) := by
            intro x hx
            have le := lcV_le (eq := eq) (n := n) (m := m) _ a b (Nat.le_refl _)
            have fr : Fr (fun k => k = 479) S1 (gI S1 479 (100 * a + b) x) := fr_gI rfl
            have k := (ih (a + 1) b (gI S1 479 (100 * a + b) x) (by omega) (by omega) (by omega) (fun a' b' q1 q2 q3 _ q5 => by
              by_cases q : 100 * a' + b' = 100 * a + b
              · have : a' = a ∧ b' = b := by omega
                rw [this.1, this.2, gI_a]
                exact hx
              · rw [gI_k q]
                exact h4 a' b' q1 q2 (by omega) (fun _ => trivial) (by omega)) (fr_tr hF fr) (good_gI hG1 (by constructor <;> omega) (fun q => by unfold isC at q; omega))).1 (by omega)
            rw [show ((a + 1 : Nat) : Int) - 1 = (a : Int) by omega] at k
            refine ev_up (fun n => e_X5_countPairs_94) ?_
            unfold b_X5_countPairs_94
            refine ev_gv ?_
            refine ev_gv ?_
            refine ev_gg (by constructor <;> omega) ?_
            rw [show ((a : Int) * 100 + (b : Int)).toNat = 100 * a + b by omega]
            refine ev_gv ?_
            refine ev_gv ?_
            exact k
          by_cases ca : a = n
          · have k := put 0 (by rw [lcV_0 (by omega)]; rfl)
            refine ev_up (fun n => e_X5_countPairs_19) ?_
            unfold b_X5_countPairs_19
            repeat' (first
              | with_reducible refine ev_gv ?_
              | with_reducible refine ev_gg ?_ ?_
              | with_reducible refine ev_ite (fun _ => ?_) (fun _ => ?_)
              | refine ev_gcr (or_pairs (a := (a : Int) + 1) (b := (b : Int)) (by constructor <;> omega) (by constructor <;> omega)) ?_
              | refine ev_gcr (or_pairs (a := (a : Int)) (b := (b : Int) + 1) (by constructor <;> omega) (by constructor <;> omega)) ?_
              | omega
              | assumption)
            all_goals exact k
          · by_cases cb : b = m
            · have k := put 0 (by rw [lcV_0 (by omega)]; rfl)
              refine ev_up (fun n => e_X5_countPairs_19) ?_
              unfold b_X5_countPairs_19
              repeat' (first
                | with_reducible refine ev_gv ?_
                | with_reducible refine ev_gg ?_ ?_
                | with_reducible refine ev_ite (fun _ => ?_) (fun _ => ?_)
                | refine ev_gcr (or_pairs (a := (a : Int) + 1) (b := (b : Int)) (by constructor <;> omega) (by constructor <;> omega)) ?_
                | refine ev_gcr (or_pairs (a := (a : Int)) (b := (b : Int) + 1) (by constructor <;> omega) (by constructor <;> omega)) ?_
                | omega
                | assumption)
              all_goals exact k
            · have e1 : pfV S1 ((a : Int) + 1) (b : Int) = (lcV eq n m (a + 1) b : Int) := by
                unfold pfV
                rw [if_pos (by omega), show (((a : Int) + 1) * 100 + (b : Int)).toNat = 100 * (a + 1) + b by omega]
                exact h4 (a + 1) b (by omega) (by omega) (by omega) (fun _ => trivial) (by omega)
              have e2 : pfV S1 (a : Int) ((b : Int) + 1) = (lcV eq n m a (b + 1) : Int) := by
                unfold pfV
                rw [if_pos (by omega), show ((a : Int) * 100 + ((b : Int) + 1)).toNat = 100 * a + (b + 1) by omega]
                exact h4 a (b + 1) (by omega) (by omega) (by omega) (fun _ => trivial) (by omega)
              have e3 : pfV S1 ((a : Int) + 1) ((b : Int) + 1) = (lcV eq n m (a + 1) (b + 1) : Int) := by
                unfold pfV
                rw [if_pos (by omega), show (((a : Int) + 1) * 100 + ((b : Int) + 1)).toNat = 100 * (a + 1) + (b + 1) by omega]
                exact h4 (a + 1) (b + 1) (by omega) (by omega) (by omega) (fun _ => trivial) (by omega)
              have ee : S1.2.1 478 (100 * a + b) = eq a b := by rw [e478]; exact he a b (by omega) (by omega)
              have rp1 := rd_as (or_pairs (S := S1) (d := d - 1) (a := (a : Int) + 1) (b := (b : Int)) (by constructor <;> omega) (by constructor <;> omega)) e1
              have rp2 := rd_as (or_pairs (S := S1) (d := d - 1) (a := (a : Int)) (b := (b : Int) + 1) (by constructor <;> omega) (by constructor <;> omega)) e2
              have rp3 := rd_as (or_pairs (S := S1) (d := d - 1) (a := (a : Int) + 1) (b := (b : Int) + 1) (by constructor <;> omega) (by constructor <;> omega)) e3
              have le1 := lcV_le (eq := eq) (n := n) (m := m) _ (a + 1) b (Nat.le_refl _)
              have le2 := lcV_le (eq := eq) (n := n) (m := m) _ a (b + 1) (Nat.le_refl _)
              have ls := lcV_s (eq := eq) (n := n) (m := m) (a := a) (b := b) (by omega)
              have et : ((a : Int) * 100 + (b : Int)).toNat = 100 * a + b := by omega
              cases hq : eq a b with
              | true =>
                rw [hq, if_pos rfl] at ls
                have eb : bi (S1.2.1 478 ((a : Int) * 100 + (b : Int)).toNat) = 1 := by rw [et, ee, hq]; rfl
                have k := put ((lcV eq n m (a + 1) (b + 1) : Int) + 1) (by rw [ls]; omega)
                refine ev_up (fun n => e_X5_countPairs_19) ?_
                unfold b_X5_countPairs_19
                repeat' (first
                  | with_reducible refine ev_gv ?_
                  | with_reducible refine ev_gg ?_ ?_
                  | with_reducible refine ev_ite (fun _ => ?_) (fun _ => ?_)
                  | refine ev_gcr (rp1) ?_
                  | refine ev_gcr (rp2) ?_
                  | refine ev_gcr (rp3) ?_
                  | omega
                  | assumption)
                all_goals exact k
              | false =>
                rw [hq, if_neg (by decide)] at ls
                have eb : bi (S1.2.1 478 ((a : Int) * 100 + (b : Int)).toNat) = 0 := by rw [et, ee, hq]; rfl
                have k := put (max (lcV eq n m (a + 1) b : Int) (lcV eq n m a (b + 1) : Int)) (by rw [ls]; omega)
                refine ev_up (fun n => e_X5_countPairs_19) ?_
                unfold b_X5_countPairs_19
                repeat' (first
                  | with_reducible refine ev_gv ?_
                  | with_reducible refine ev_gg ?_ ?_
                  | with_reducible refine ev_ite (fun _ => ?_) (fun _ => ?_)
                  | refine ev_gcr (rp1) ?_
                  | refine ev_gcr (rp2) ?_
                  | omega
                  | assumption)
                all_goals exact k
      refine ⟨inner, fun hb0 => ?_⟩
      subst hb0
      by_cases ha1 : 1 ≤ a
      · have k := inner ha1
        rw [show ((m + 1 : Nat) : Int) - 1 = min (m : Int) 99 by omega] at k
        refine ev_up (fun n => e_X5_countPairs_7) ?_
        unfold b_X5_countPairs_7
        repeat' (first
          | with_reducible refine ev_gv ?_
          | with_reducible refine ev_gg ?_ ?_
          | with_reducible refine ev_ite (fun _ => ?_) (fun _ => ?_)
          | omega
          | assumption)
        all_goals exact k
      · refine ev_up (fun n => e_X5_countPairs_7) ?_
        unfold b_X5_countPairs_7
        repeat' (first
          | with_reducible refine ev_gv ?_
          | with_reducible refine ev_gg ?_ ?_
          | with_reducible refine ev_ite (fun _ => ?_) (fun _ => ?_)
          | omega
          | assumption)
        exact ev_ret ⟨fun a' b' q1 q2 => h4 a' b' q1 q2 (by omega) (fun _ => trivial) (by omega), hF, hG1⟩
  refine ev_up (fun n => e_X5_countPairs_0) ?_
  unfold b_X5_countPairs_0
  refine ev_gg (by constructor <;> omega) ?_
  refine ev_gv ?_
  have k := (main ((n + 1) * 200 + m + 2) (n + 1) (m + 1) S (by omega) (Nat.le_refl _) (Nat.le_refl _) (fun a' b' q1 q2 q3 _ q5 => by omega) fr_rf hG).2 rfl
  rw [show ((n + 1 : Nat) : Int) - 1 = min (n : Int) 99 by omega] at k
  exact k
end LCS
