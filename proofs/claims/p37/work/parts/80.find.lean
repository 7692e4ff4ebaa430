/-! TREES: the order of KEYS, VALUES by a KEY or a place, owners, depth -/
/-- -1, 0, 1: a row of signs is ahead of another one, the same, behind it -/
def oK : List Int → List Int → Int
  | [], [] => 0
  | [], _ :: _ => -1
  | _ :: _, [] => 1
  | x :: a, y :: b => if x = y then oK a b else if x < y then -1 else 1
theorem oK_r : ∀ a b, oK a b = -1 ∨ oK a b = 0 ∨ oK a b = 1
  | [], [] => by unfold oK; omega
  | [], _ :: _ => by unfold oK; omega
  | _ :: _, [] => by unfold oK; omega
  | x :: a, y :: b => by
    unfold oK
    have := oK_r a b
    split
    · exact this
    · split <;> omega
theorem oK_0 : ∀ {a b : List Int}, oK a b = 0 ↔ a = b
  | [], [] => by unfold oK; simp
  | [], _ :: _ => by unfold oK; simp
  | _ :: _, [] => by unfold oK; simp
  | x :: a, y :: b => by
    unfold oK
    have := oK_0 (a := a) (b := b)
    by_cases h : x = y
    · rw [if_pos h, this]
      simp [h]
    · rw [if_neg h]
      constructor
      · intro e
        split at e <;> omega
      · intro e
        cases e
        exact absurd rfl h
/-- the first VALUE with a KEY -/
def fdK (V : List ND) (key : List Int) : List Nat → Int
  | [] => -1
  | k :: r => if nq V k = key then (k : Int) else fdK V key r
def kidsM (V : List ND) (g : Nat) : List Nat := if nk V g = 5 then kids V g else []
/-- the VALUE of a MAP with a KEY; none -/
def vLk (V : List ND) (map : Int) (key : List Int) : Int := if 0 ≤ map ∧ map < (V.length : Int) then fdK V key (kidsM V map.toNat) else -1
/-- the least KEY behind that of a VALUE -/
def nbK (V : List ND) (last : Int) (least : Int) : List Nat → Int
  | [] => least
  | k :: r => if (last = -1 ∨ 0 < oK (nq V k) (nq V last.toNat)) ∧ (least = -1 ∨ oK (nq V k) (nq V least.toNat) < 0) then nbK V last (k : Int) r else nbK V last least r
/-- the place of a number in a row of numbers -/
def plK (x : Nat) : List Nat → Nat → Int
  | [], _ => -1
  | k :: r, n => if k = x then (n : Int) else plK x r (n + 1)
/-- the number at a place -/
def atK : List Nat → Int → Int
  | [], _ => -1
  | k :: r, p => if p = 0 then (k : Int) else atK r (p - 1)
section FND
variable {S : GS} {c d : Nat} {V : List ND}
theorem ordK_47 {c2 : Nat} {U : List ND} {i j : Nat} (hc : gT c) (hc2 : gT c2) (hv : TV S c V) (hv2 : TV S c2 U) (hi : i < V.length) (hj : j < U.length) : ∀ (m t : Nat), min (nq V i).length (nq U j).length - t < m → t ≤ (nq V i).length → t ≤ (nq U j).length → Rd (fun n => f_X10_orderOfKeys n d 47 S [((c : Nat) : Int), (i : Int), ((c2 : Nat) : Int), (j : Int), min (min ((nq V i).length : Int) ((nq U j).length : Int)) 12, (t : Int)]) (oK ((nq V i).drop t) ((nq U j).drop t)) S := by
  have q1 := tv_q hv hi
  have q2 := tv_q hv2 hj
  have l1 := tv_l hv
  have l2 := tv_l hv2
  have k1 := kI_r hv (i : Int)
  have k2 := kI_r hv2 (j : Int)
  rw [kI_nat hi] at k1
  rw [kI_nat hj] at k2
  obtain ⟨k1, k1'⟩ := k1
  obtain ⟨k2, k2'⟩ := k2
  intro m
  induction m with
  | zero => intros; omega
  | succ m ih =>
    intro t hm h1 h2
    by_cases ht : t < (nq V i).length ∧ t < (nq U j).length
    · have a1 := k1' _ (gD_mem ht.1)
      have a2 := k2' _ (gD_mem ht.2)
      have s1 := tv_qs hv hi ht.1
      have s2 := tv_qs hv2 hj ht.2
      rw [show 12 * i + t = ((i : Int) * 12 + (t : Int)).toNat by omega] at s1
      rw [show 12 * j + t = ((j : Int) * 12 + (t : Int)).toNat by omega] at s2
      have := ih (t + 1) (by omega) (by omega) (by omega)
      rw [drop_one ht.1, drop_one ht.2]
      unfold oK
      refine ev_up (fun n => e_X10_orderOfKeys_47) ?_
      unfold b_X10_orderOfKeys_47
      repeat' (first
        | with_reducible refine ev_gv ?_
        | with_reducible refine ev_gg ?_ ?_
        | with_reducible refine ev_ite (fun _ => ?_) (fun _ => ?_)
        | omega
        | assumption)
      · rw [if_pos (by omega)]
        exact this
      · rw [if_neg (by omega), if_neg (by omega)]
        exact ev_ret ⟨rfl, rfl⟩
      · rw [if_neg (by omega), if_pos (by omega)]
        exact ev_ret ⟨rfl, rfl⟩
    · have e : oK ((nq V i).drop t) ((nq U j).drop t) = max (-1) (min 1 (((nq V i).length : Int) - ((nq U j).length : Int))) := by
        by_cases e1 : t < (nq V i).length
        · rw [drop_one e1, List.drop_eq_nil_of_le (as := nq U j) (by omega)]
          unfold oK
          omega
        · rw [List.drop_eq_nil_of_le (as := nq V i) (by omega)]
          by_cases e2 : t < (nq U j).length
          · rw [drop_one e2]
            unfold oK
            omega
          · rw [List.drop_eq_nil_of_le (as := nq U j) (by omega)]
            unfold oK
            omega
      rw [e]
      refine ev_up (fun n => e_X10_orderOfKeys_47) ?_
      unfold b_X10_orderOfKeys_47
      simp only [Int.toNat_natCast, q1, q2]
      repeat' (first
        | with_reducible refine ev_gv ?_
        | with_reducible refine ev_gg ?_ ?_
        | with_reducible refine ev_ite (fun _ => ?_) (fun _ => ?_)
        | omega
        | assumption)
      exact ev_ret ⟨rfl, rfl⟩
theorem t_orderOfKeys {c2 : Nat} {U : List ND} {i j : Nat} (hc : gT c) (hc2 : gT c2) (hv : TV S c V) (hv2 : TV S c2 U) (hi : i < V.length) (hj : j < U.length) : Rd (fun n => f_X10_orderOfKeys n d 0 S [((c : Nat) : Int), (i : Int), ((c2 : Nat) : Int), (j : Int)]) (oK (nq V i) (nq U j)) S := by
  have q1 := tv_q hv hi
  have q2 := tv_q hv2 hj
  have l1 := tv_l hv
  have l2 := tv_l hv2
  have k1 := kI_r hv (i : Int)
  have k2 := kI_r hv2 (j : Int)
  rw [kI_nat hi] at k1
  rw [kI_nat hj] at k2
  obtain ⟨k1, k1'⟩ := k1
  obtain ⟨k2, k2'⟩ := k2
  have key := ordK_47 (d := d) hc hc2 hv hv2 hi hj _ 0 (Nat.lt_succ_self _) (Nat.zero_le _) (Nat.zero_le _)
  refine ev_up (fun n => e_X10_orderOfKeys_0) ?_
  unfold b_X10_orderOfKeys_0
  simp only [Int.toNat_natCast, q1, q2]
  repeat' (first
    | with_reducible refine ev_gv ?_
    | with_reducible refine ev_gg ?_ ?_
    | with_reducible refine ev_ite (fun _ => ?_) (fun _ => ?_)
    | omega
    | assumption)
theorem t_firstX {g : Int} (hc : gT c) (hv : TV S c V) (hg : ¬ (0 ≤ g ∧ g < (V.length : Int))) (hi : inr g) : Rd (fun n => f_X10_first n d 0 S [((c : Nat) : Int), g]) (-1) S := by
  have h1 := tv_n hv
  have h2 := tv_l hv
  have key : Rd (fun n => f_X10_first n d 25 S [((c : Nat) : Int), g, 0]) (-1) S := by
    refine ev_up (fun n => e_X10_first_25) ?_
    unfold b_X10_first_25
    repeat' (first
      | with_reducible refine ev_gv ?_
      | with_reducible refine ev_gg ?_ ?_
      | with_reducible refine ev_ite (fun _ => ?_) (fun _ => ?_)
      | omega
      | assumption)
    all_goals exact ev_ret ⟨by omega, rfl⟩
  refine ev_up (fun n => e_X10_first_0) ?_
  unfold b_X10_first_0
  repeat' (first
    | with_reducible refine ev_gv ?_
    | with_reducible refine ev_gg ?_ ?_
    | with_reducible refine ev_ite (fun _ => ?_) (fun _ => ?_)
    | omega
    | assumption)
  all_goals exact key
theorem t_firstOfMapX {g : Int} (hc : gT c) (hv : TV S c V) (hg : ¬ (0 ≤ g ∧ g < (V.length : Int))) (hi : inr g) : Rd (fun n => f_X10_firstOfMap n d 0 S [((c : Nat) : Int), g]) (-1) S := by
  have h1 := tv_n hv
  have h2 := tv_l hv
  have key : Rd (fun n => f_X10_firstOfMap n d 25 S [((c : Nat) : Int), g, 0]) (-1) S := by
    refine ev_up (fun n => e_X10_firstOfMap_25) ?_
    unfold b_X10_firstOfMap_25
    repeat' (first
      | with_reducible refine ev_gv ?_
      | with_reducible refine ev_gg ?_ ?_
      | with_reducible refine ev_ite (fun _ => ?_) (fun _ => ?_)
      | omega
      | assumption)
    all_goals exact ev_ret ⟨by omega, rfl⟩
  refine ev_up (fun n => e_X10_firstOfMap_0) ?_
  unfold b_X10_firstOfMap_0
  repeat' (first
    | with_reducible refine ev_gv ?_
    | with_reducible refine ev_gg ?_ ?_
    | with_reducible refine ev_ite (fun _ => ?_) (fun _ => ?_)
    | omega
    | assumption)
  all_goals exact key
theorem vLike_L {g : Nat} {c2 : Nat} {U : List ND} {j : Nat} (hc : gT c) (hv : TV S c V) (hw : WF V) (hz : PZ V) (hl : g < V.length) (hd : 1 ≤ d) (hc2 : gT c2) (hv2 : TV S c2 U) (hj : j < U.length) : ∀ (m i : Nat) (n : Int) , g + nz V g - i < m → g < i → 0 ≤ n → n + ((g + nz V g - i : Nat) : Int) ≤ 99 → Rd (fun k => f_X10_valueLike k d 10 S [((c : Nat) : Int), (g : Int), ((c2 : Nat) : Int), (j : Int), cur i (g + nz V g), n]) (fdK V (nq U j) (ks V i (g + nz V g))) S := by
  have hlen := tv_l hv
  have w1 := hw.1 g hl
  intro m
  induction m with
  | zero => intros; omega
  | succ m ih =>
    intro i n  h1 h2 h3 h4
    by_cases hi : i < g + nz V g
    · have z := hz i
      have w2 := hw.2.1 g i h2 hi
      have hiV : i < V.length := by omega
      rw [ks_cons hz hi, show cur i (g + nz V g) = (i : Int) from if_pos hi]
      have fact : oK (nq V i) (nq U j) = 0 ↔ nq V i = nq U j := oK_0
      have hr := oK_r (nq V i) (nq U j)
      unfold fdK
      refine ev_up (fun n => e_X10_valueLike_10) ?_
      unfold b_X10_valueLike_10
      repeat' (first
        | with_reducible refine ev_gv ?_
        | with_reducible refine ev_gg ?_ ?_
        | with_reducible refine ev_ite (fun _ => ?_) (fun _ => ?_)
        | refine ev_gcr (t_orderOfKeys hc hc2 hv hv2 hiV hj) ?_
        | refine ev_gcr (t_next hc hv hw h2 hi hl) ?_
        | omega
        | assumption)
      · rw [if_neg (fun e => by have := fact.2 e; omega)]
        exact ih (i + nz V i) (n + 1) (by omega) (by omega) (by omega) (by omega)
      · rw [if_pos (fact.1 (by omega))]
        exact ev_ret ⟨rfl, rfl⟩
    · rw [ks_nil (by omega), show cur i (g + nz V g) = -1 from if_neg (by omega)]
      refine ev_up (fun n => e_X10_valueLike_10) ?_
      unfold b_X10_valueLike_10
      repeat' (first
        | with_reducible refine ev_gv ?_
        | with_reducible refine ev_gg ?_ ?_
        | with_reducible refine ev_ite (fun _ => ?_) (fun _ => ?_)
        | omega
        | assumption)
      all_goals exact ev_ret ⟨rfl, rfl⟩
theorem t_valueLike {g : Int} {c2 : Nat} {U : List ND} {j : Nat} (hc : gT c) (hv : TV S c V) (hw : WF V) (hi : inr g) (hd : 1 ≤ d) (hc2 : gT c2) (hv2 : TV S c2 U) (hj : j < U.length) : Rd (fun n => f_X10_valueLike n d 0 S [((c : Nat) : Int), g, ((c2 : Nat) : Int), (j : Int)]) (vLk V g (nq U j)) S := by
  have hz := pz_of hv.2.2.2
  have hlen := tv_l hv
  have k0 : Rd (fun k => f_X10_valueLike k d 10 S [((c : Nat) : Int), g, ((c2 : Nat) : Int), (j : Int), -1, 0]) (-1) S := by
    refine ev_up (fun n => e_X10_valueLike_10) ?_
    unfold b_X10_valueLike_10
    repeat' (first
      | with_reducible refine ev_gv ?_
      | with_reducible refine ev_gg ?_ ?_
      | with_reducible refine ev_ite (fun _ => ?_) (fun _ => ?_)
      | omega
      | assumption)
    exact ev_ret ⟨rfl, rfl⟩
  unfold vLk
  by_cases hin : 0 ≤ g ∧ g < (V.length : Int)
  · obtain ⟨g, rfl⟩ : ∃ k : Nat, g = (k : Int) := ⟨g.toNat, by omega⟩
    have hl : g < V.length := by omega
    have w1 := hw.1 g hl
    rw [if_pos hin, Int.toNat_natCast]
    unfold kidsM
    by_cases hk : nk V g = 5
    · rw [if_pos hk]
      have key := vLike_L (d := d) hc hv hw hz hl (by omega) hc2 hv2 hj _ (g + 1) 0 (Nat.lt_succ_self _) (by omega) (by omega) (by omega)
      refine ev_up (fun n => e_X10_valueLike_0) ?_
      unfold b_X10_valueLike_0
      repeat' (first
        | with_reducible refine ev_gv ?_
        | with_reducible refine ev_gg ?_ ?_
        | with_reducible refine ev_ite (fun _ => ?_) (fun _ => ?_)
        | refine ev_gcr (rd_as (t_firstOfMap hc hv hw hl) (if_pos hk)) ?_
        | omega
        | assumption)
      all_goals exact key
    · rw [if_neg hk]
      refine ev_up (fun n => e_X10_valueLike_0) ?_
      unfold b_X10_valueLike_0
      repeat' (first
        | with_reducible refine ev_gv ?_
        | with_reducible refine ev_gg ?_ ?_
        | with_reducible refine ev_ite (fun _ => ?_) (fun _ => ?_)
        | refine ev_gcr (rd_as (t_firstOfMap hc hv hw hl) (if_neg hk)) ?_
        | omega
        | assumption)
      all_goals exact k0
  · rw [if_neg hin]
    refine ev_up (fun n => e_X10_valueLike_0) ?_
    unfold b_X10_valueLike_0
    repeat' (first
      | with_reducible refine ev_gv ?_
      | with_reducible refine ev_gg ?_ ?_
      | with_reducible refine ev_ite (fun _ => ?_) (fun _ => ?_)
      | refine ev_gcr (t_firstOfMapX hc hv hin hi) ?_
      | omega
      | assumption)
    all_goals exact k0
theorem vOf_L {g : Nat} {c2 : Nat} {l2 : List Int} (hc : gT c) (hv : TV S c V) (hw : WF V) (hz : PZ V) (hl : g < V.length) (hd : 2 ≤ d) (hc2 : gSh c2) (hv2 : SV S c2 l2) : ∀ (m i : Nat) (n : Int) , g + nz V g - i < m → g < i → 0 ≤ n → n + ((g + nz V g - i : Nat) : Int) ≤ 99 → Rd (fun k => f_X10_valueOf k d 9 S [((c : Nat) : Int), (g : Int), ((c2 : Nat) : Int), cur i (g + nz V g), n]) (fdK V l2 (ks V i (g + nz V g))) S := by
  have hlen := tv_l hv
  have w1 := hw.1 g hl
  intro m
  induction m with
  | zero => intros; omega
  | succ m ih =>
    intro i n  h1 h2 h3 h4
    by_cases hi : i < g + nz V g
    · have z := hz i
      have w2 := hw.2.1 g i h2 hi
      have hiV : i < V.length := by omega
      rw [ks_cons hz hi, show cur i (g + nz V g) = (i : Int) from if_pos hi]
      have fact : kI V (i : Int) = nq V i := kI_nat hiV
      unfold fdK
      rw [← fact]
      by_cases e : kI V (i : Int) = l2
      · rw [if_pos e]
        refine ev_up (fun n => e_X10_valueOf_9) ?_
        unfold b_X10_valueOf_9
        repeat' (first
          | with_reducible refine ev_gv ?_
          | with_reducible refine ev_gg ?_ ?_
          | with_reducible refine ev_ite (fun _ => ?_) (fun _ => ?_)
          | refine ev_gcr (rd_as (t_hasKey hc hc2 (by omega) hv hv2 (i := (i : Int)) (by constructor <;> omega)) (if_pos e)) ?_
          | omega
          | assumption)
        exact ev_ret ⟨rfl, rfl⟩
      · rw [if_neg e]
        refine ev_up (fun n => e_X10_valueOf_9) ?_
        unfold b_X10_valueOf_9
        repeat' (first
          | with_reducible refine ev_gv ?_
          | with_reducible refine ev_gg ?_ ?_
          | with_reducible refine ev_ite (fun _ => ?_) (fun _ => ?_)
          | refine ev_gcr (rd_as (t_hasKey hc hc2 (by omega) hv hv2 (i := (i : Int)) (by constructor <;> omega)) (if_neg e)) ?_
          | refine ev_gcr (t_next hc hv hw h2 hi hl) ?_
          | omega
          | assumption)
        exact ih (i + nz V i) (n + 1) (by omega) (by omega) (by omega) (by omega)
    · rw [ks_nil (by omega), show cur i (g + nz V g) = -1 from if_neg (by omega)]
      refine ev_up (fun n => e_X10_valueOf_9) ?_
      unfold b_X10_valueOf_9
      repeat' (first
        | with_reducible refine ev_gv ?_
        | with_reducible refine ev_gg ?_ ?_
        | with_reducible refine ev_ite (fun _ => ?_) (fun _ => ?_)
        | omega
        | assumption)
      all_goals exact ev_ret ⟨rfl, rfl⟩
theorem t_valueOf {g : Int} {c2 : Nat} {l2 : List Int} (hc : gT c) (hv : TV S c V) (hw : WF V) (hi : inr g) (hd : 2 ≤ d) (hc2 : gSh c2) (hv2 : SV S c2 l2) : Rd (fun n => f_X10_valueOf n d 0 S [((c : Nat) : Int), g, ((c2 : Nat) : Int)]) (vLk V g l2) S := by
  have hz := pz_of hv.2.2.2
  have hlen := tv_l hv
  have k0 : Rd (fun k => f_X10_valueOf k d 9 S [((c : Nat) : Int), g, ((c2 : Nat) : Int), -1, 0]) (-1) S := by
    refine ev_up (fun n => e_X10_valueOf_9) ?_
    unfold b_X10_valueOf_9
    repeat' (first
      | with_reducible refine ev_gv ?_
      | with_reducible refine ev_gg ?_ ?_
      | with_reducible refine ev_ite (fun _ => ?_) (fun _ => ?_)
      | omega
      | assumption)
    exact ev_ret ⟨rfl, rfl⟩
  unfold vLk
  by_cases hin : 0 ≤ g ∧ g < (V.length : Int)
  · obtain ⟨g, rfl⟩ : ∃ k : Nat, g = (k : Int) := ⟨g.toNat, by omega⟩
    have hl : g < V.length := by omega
    have w1 := hw.1 g hl
    rw [if_pos hin, Int.toNat_natCast]
    unfold kidsM
    by_cases hk : nk V g = 5
    · rw [if_pos hk]
      have key := vOf_L (d := d) hc hv hw hz hl (by omega) hc2 hv2 _ (g + 1) 0 (Nat.lt_succ_self _) (by omega) (by omega) (by omega)
      refine ev_up (fun n => e_X10_valueOf_0) ?_
      unfold b_X10_valueOf_0
      repeat' (first
        | with_reducible refine ev_gv ?_
        | with_reducible refine ev_gg ?_ ?_
        | with_reducible refine ev_ite (fun _ => ?_) (fun _ => ?_)
        | refine ev_gcr (rd_as (t_firstOfMap hc hv hw hl) (if_pos hk)) ?_
        | omega
        | assumption)
      all_goals exact key
    · rw [if_neg hk]
      refine ev_up (fun n => e_X10_valueOf_0) ?_
      unfold b_X10_valueOf_0
      repeat' (first
        | with_reducible refine ev_gv ?_
        | with_reducible refine ev_gg ?_ ?_
        | with_reducible refine ev_ite (fun _ => ?_) (fun _ => ?_)
        | refine ev_gcr (rd_as (t_firstOfMap hc hv hw hl) (if_neg hk)) ?_
        | omega
        | assumption)
      all_goals exact k0
  · rw [if_neg hin]
    refine ev_up (fun n => e_X10_valueOf_0) ?_
    unfold b_X10_valueOf_0
    repeat' (first
      | with_reducible refine ev_gv ?_
      | with_reducible refine ev_gg ?_ ?_
      | with_reducible refine ev_ite (fun _ => ?_) (fun _ => ?_)
      | refine ev_gcr (t_firstOfMapX hc hv hin hi) ?_
      | omega
      | assumption)
    all_goals exact k0
theorem vNamed_L {g : Nat} {t : Nat} (hc : gT c) (hv : TV S c V) (hw : WF V) (hz : PZ V) (hl : g < V.length) (hd : 5 ≤ d) (ht : t < 54) : ∀ (m i : Nat) (n : Int) , g + nz V g - i < m → g < i → 0 ≤ n → n + ((g + nz V g - i : Nat) : Int) ≤ 99 → Rd (fun k => f_X10_valueNamed k d 9 S [((c : Nat) : Int), (g : Int), ((t : Nat) : Int), cur i (g + nz V g), n]) (fdK V (sx t) (ks V i (g + nz V g))) S := by
  have hlen := tv_l hv
  have w1 := hw.1 g hl
  intro m
  induction m with
  | zero => intros; omega
  | succ m ih =>
    intro i n  h1 h2 h3 h4
    by_cases hi : i < g + nz V g
    · have z := hz i
      have w2 := hw.2.1 g i h2 hi
      have hiV : i < V.length := by omega
      rw [ks_cons hz hi, show cur i (g + nz V g) = (i : Int) from if_pos hi]
      have fact : kI V (i : Int) = nq V i := kI_nat hiV
      unfold fdK
      rw [← fact]
      by_cases e : kI V (i : Int) = (sx t)
      · rw [if_pos e]
        refine ev_up (fun n => e_X10_valueNamed_9) ?_
        unfold b_X10_valueNamed_9
        repeat' (first
          | with_reducible refine ev_gv ?_
          | with_reducible refine ev_gg ?_ ?_
          | with_reducible refine ev_ite (fun _ => ?_) (fun _ => ?_)
          | refine ev_gcr (rd_as (t_hasKeyWord hc ht (by omega) hv (i := (i : Int)) (by constructor <;> omega)) (if_pos e)) ?_
          | omega
          | assumption)
        exact ev_ret ⟨rfl, rfl⟩
      · rw [if_neg e]
        refine ev_up (fun n => e_X10_valueNamed_9) ?_
        unfold b_X10_valueNamed_9
        repeat' (first
          | with_reducible refine ev_gv ?_
          | with_reducible refine ev_gg ?_ ?_
          | with_reducible refine ev_ite (fun _ => ?_) (fun _ => ?_)
          | refine ev_gcr (rd_as (t_hasKeyWord hc ht (by omega) hv (i := (i : Int)) (by constructor <;> omega)) (if_neg e)) ?_
          | refine ev_gcr (t_next hc hv hw h2 hi hl) ?_
          | omega
          | assumption)
        exact ih (i + nz V i) (n + 1) (by omega) (by omega) (by omega) (by omega)
    · rw [ks_nil (by omega), show cur i (g + nz V g) = -1 from if_neg (by omega)]
      refine ev_up (fun n => e_X10_valueNamed_9) ?_
      unfold b_X10_valueNamed_9
      repeat' (first
        | with_reducible refine ev_gv ?_
        | with_reducible refine ev_gg ?_ ?_
        | with_reducible refine ev_ite (fun _ => ?_) (fun _ => ?_)
        | omega
        | assumption)
      all_goals exact ev_ret ⟨rfl, rfl⟩
theorem t_valueNamed {g : Int} {t : Nat} (hc : gT c) (hv : TV S c V) (hw : WF V) (hi : inr g) (hd : 5 ≤ d) (ht : t < 54) : Rd (fun n => f_X10_valueNamed n d 0 S [((c : Nat) : Int), g, ((t : Nat) : Int)]) (vLk V g (sx t)) S := by
  have hz := pz_of hv.2.2.2
  have hlen := tv_l hv
  have k0 : Rd (fun k => f_X10_valueNamed k d 9 S [((c : Nat) : Int), g, ((t : Nat) : Int), -1, 0]) (-1) S := by
    refine ev_up (fun n => e_X10_valueNamed_9) ?_
    unfold b_X10_valueNamed_9
    repeat' (first
      | with_reducible refine ev_gv ?_
      | with_reducible refine ev_gg ?_ ?_
      | with_reducible refine ev_ite (fun _ => ?_) (fun _ => ?_)
      | omega
      | assumption)
    exact ev_ret ⟨rfl, rfl⟩
  unfold vLk
  by_cases hin : 0 ≤ g ∧ g < (V.length : Int)
  · obtain ⟨g, rfl⟩ : ∃ k : Nat, g = (k : Int) := ⟨g.toNat, by omega⟩
    have hl : g < V.length := by omega
    have w1 := hw.1 g hl
    rw [if_pos hin, Int.toNat_natCast]
    unfold kidsM
    by_cases hk : nk V g = 5
    · rw [if_pos hk]
      have key := vNamed_L (d := d) hc hv hw hz hl (by omega) ht _ (g + 1) 0 (Nat.lt_succ_self _) (by omega) (by omega) (by omega)
      refine ev_up (fun n => e_X10_valueNamed_0) ?_
      unfold b_X10_valueNamed_0
      repeat' (first
        | with_reducible refine ev_gv ?_
        | with_reducible refine ev_gg ?_ ?_
        | with_reducible refine ev_ite (fun _ => ?_) (fun _ => ?_)
        | refine ev_gcr (rd_as (t_firstOfMap hc hv hw hl) (if_pos hk)) ?_
        | omega
        | assumption)
      all_goals exact key
    · rw [if_neg hk]
      refine ev_up (fun n => e_X10_valueNamed_0) ?_
      unfold b_X10_valueNamed_0
      repeat' (first
        | with_reducible refine ev_gv ?_
        | with_reducible refine ev_gg ?_ ?_
        | with_reducible refine ev_ite (fun _ => ?_) (fun _ => ?_)
        | refine ev_gcr (rd_as (t_firstOfMap hc hv hw hl) (if_neg hk)) ?_
        | omega
        | assumption)
      all_goals exact k0
  · rw [if_neg hin]
    refine ev_up (fun n => e_X10_valueNamed_0) ?_
    unfold b_X10_valueNamed_0
    repeat' (first
      | with_reducible refine ev_gv ?_
      | with_reducible refine ev_gg ?_ ?_
      | with_reducible refine ev_ite (fun _ => ?_) (fun _ => ?_)
      | refine ev_gcr (t_firstOfMapX hc hv hin hi) ?_
      | omega
      | assumption)
    all_goals exact k0
end FND
