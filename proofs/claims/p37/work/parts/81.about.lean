/-! TREES: the rest of what only asks -/
def ow (V : List ND) (i : Nat) : Nat → Int
  | 0 => -1
  | p + 1 => if i < p + nz V p then (p : Int) else ow V i p
/-- the NODE of which it is a VALUE -/
def owI (V : List ND) (i : Nat) : Int := ow V i i
def dpF : Nat → List ND → Nat → Int
  | 0, V, i => if 4 ≤ nk V i then 1 else 0
  | f + 1, V, i => if 4 ≤ nk V i then (kids V i).foldl (fun a k => max a (dpF f V k)) 0 + 1 else 0
def lnI (V : List ND) (i : Int) : Int := if 0 ≤ i ∧ i < (V.length : Int) then (if nk V i.toNat = 3 then ((nt V i.toNat).length : Int) else if 4 ≤ nk V i.toNat then ((kids V i.toNat).length : Int) else -1) else -1
abbrev nmI (V : List ND) (i : Int) : Prop := (0 ≤ i ∧ i < (V.length : Int)) ∧ nk V i.toNat = 2
def sgI (V : List ND) (i : Int) : Int := if atD (tI V i) 0 = 45 then -1 else if atD (tI V i) 0 = 48 then 0 else 1
def fgI (V : List ND) (i : Int) : Int := if nmI V i then ((tI V i).length : Int) - (if atD (tI V i) 0 = 45 then 1 else 0) else 0
def pwI (V : List ND) (i : Int) : Int := if nmI V i then np V i.toNat else 0
def dgI (V : List ND) (i p : Int) : Int := if 0 ≤ p + (if atD (tI V i) 0 = 45 then 1 else 0) ∧ p + (if atD (tI V i) 0 = 45 then 1 else 0) < ((tI V i).length : Int) then atD (tI V i) (p + (if atD (tI V i) 0 = 45 then 1 else 0)) else 48
def ord3 (a b : Int) : Int := max (-1) (min 1 (a - b))
def oD (V : List ND) (i : Int) (U : List ND) (j : Int) : Nat → Nat → Int → Int
  | 0, _, s => s
  | f + 1, p, s => if s ≠ 0 then s else oD V i U j f (p + 1) (ord3 (dgI V i p) (dgI U j p))
/-- the order of two NUMBERS -/
def onI (V : List ND) (i : Int) (U : List ND) (j : Int) : Int := if sgI V i ≠ sgI U j ∨ sgI V i = 0 then ord3 (sgI V i) (sgI U j) else sgI V i * oD V i U j 24 0 (ord3 (fgI V i + pwI V i) (fgI U j + pwI U j))
section AB
variable {S : GS} {c d : Nat} {V : List ND}
theorem placeOf_L {g x : Nat} (hc : gT c) (hv : TV S c V) (hw : WF V) (hz : PZ V) (hl : g < V.length) (hd : 1 ≤ d) (hx : x < V.length) : ∀ (m i n : Nat), g + nz V g - i < m → g < i → n + (g + nz V g - i) ≤ 99 → Rd (fun k => f_X10_placeOf k d 15 S [((c : Nat) : Int), (x : Int), (g : Int), cur i (g + nz V g), (n : Int)]) (plK x (ks V i (g + nz V g)) n) S := by
  have hlen := tv_l hv
  have w1 := hw.1 g hl
  intro m
  induction m with
  | zero => intros; omega
  | succ m ih =>
    intro i n h1 h2 h4
    by_cases hi : i < g + nz V g
    · have z := hz i
      have w2 := hw.2.1 g i h2 hi
      rw [ks_cons hz hi, show cur i (g + nz V g) = (i : Int) from if_pos hi]
      unfold plK
      refine ev_up (fun n => e_X10_placeOf_15) ?_
      unfold b_X10_placeOf_15
      repeat' (first
        | with_reducible refine ev_gv ?_
        | with_reducible refine ev_gg ?_ ?_
        | with_reducible refine ev_ite (fun _ => ?_) (fun _ => ?_)
        | refine ev_gcr (t_next hc hv hw h2 hi hl) ?_
        | omega
        | assumption)
      · rw [if_neg (by omega)]
        exact ih (i + nz V i) (n + 1) (by omega) (by omega) (by omega)
      · rw [if_pos (by omega)]
        exact ev_ret ⟨rfl, rfl⟩
    · rw [ks_nil (by omega), show cur i (g + nz V g) = -1 from if_neg (by omega)]
      refine ev_up (fun n => e_X10_placeOf_15) ?_
      unfold b_X10_placeOf_15
      repeat' (first
        | with_reducible refine ev_gv ?_
        | with_reducible refine ev_gg ?_ ?_
        | with_reducible refine ev_ite (fun _ => ?_) (fun _ => ?_)
        | omega
        | assumption)
      all_goals exact ev_ret ⟨rfl, rfl⟩
theorem valueAt_L {g : Nat} (hc : gT c) (hv : TV S c V) (hw : WF V) (hz : PZ V) (hl : g < V.length) (hd : 1 ≤ d) : ∀ (m i : Nat) (n p : Int), g + nz V g - i < m → g < i → inr (n + p) → 0 ≤ n → n + ((g + nz V g - i : Nat) : Int) ≤ 99 → Rd (fun k => f_X10_valueAt k d 9 S [((c : Nat) : Int), (g : Int), n + p, cur i (g + nz V g), n]) (atK (ks V i (g + nz V g)) p) S := by
  have hlen := tv_l hv
  have w1 := hw.1 g hl
  intro m
  induction m with
  | zero => intros; omega
  | succ m ih =>
    intro i n p h1 h2 hp h3 h4
    by_cases hi : i < g + nz V g
    · have z := hz i
      have w2 := hw.2.1 g i h2 hi
      have k := ih (i + nz V i) (n + 1) (p - 1) (by omega) (by omega) (by omega) (by omega) (by omega)
      rw [show n + 1 + (p - 1) = n + p by omega] at k
      rw [ks_cons hz hi, show cur i (g + nz V g) = (i : Int) from if_pos hi]
      unfold atK
      refine ev_up (fun n => e_X10_valueAt_9) ?_
      unfold b_X10_valueAt_9
      repeat' (first
        | with_reducible refine ev_gv ?_
        | with_reducible refine ev_gg ?_ ?_
        | with_reducible refine ev_ite (fun _ => ?_) (fun _ => ?_)
        | refine ev_gcr (t_next hc hv hw h2 hi hl) ?_
        | omega
        | assumption)
      · rw [if_neg (by omega)]
        exact k
      · rw [if_pos (by omega)]
        exact ev_ret ⟨rfl, rfl⟩
    · rw [ks_nil (by omega), show cur i (g + nz V g) = -1 from if_neg (by omega)]
      refine ev_up (fun n => e_X10_valueAt_9) ?_
      unfold b_X10_valueAt_9
      repeat' (first
        | with_reducible refine ev_gv ?_
        | with_reducible refine ev_gg ?_ ?_
        | with_reducible refine ev_ite (fun _ => ?_) (fun _ => ?_)
        | omega
        | assumption)
      all_goals exact ev_ret ⟨rfl, rfl⟩
theorem t_valueAt {g : Nat} {p : Int} (hc : gT c) (hv : TV S c V) (hw : WF V) (hl : g < V.length) (hd : 2 ≤ d) (hp : inr p) : Rd (fun n => f_X10_valueAt n d 0 S [((c : Nat) : Int), (g : Int), p]) (atK (kids V g) p) S := by
  have hz := pz_of hv.2.2.2
  have hlen := tv_l hv
  have w1 := hw.1 g hl
  have k := valueAt_L (d := d) hc hv hw hz hl (by omega) _ (g + 1) 0 p (Nat.lt_succ_self _) (by omega) (by omega) (by omega) (by omega)
  rw [show (0 : Int) + p = p by omega] at k
  refine ev_up (fun n => e_X10_valueAt_0) ?_
  unfold b_X10_valueAt_0
  repeat' (first
    | with_reducible refine ev_gv ?_
    | with_reducible refine ev_gg ?_ ?_
    | with_reducible refine ev_ite (fun _ => ?_) (fun _ => ?_)
    | refine ev_gcr (t_first hc hv hw hl) ?_
    | omega
    | assumption)
  all_goals exact k
theorem owner_11 {i : Nat} (hc : gT c) (hv : TV S c V) (hd : 1 ≤ d) (hi : i < V.length) : ∀ (p : Nat), p ≤ i → Rd (fun n => f_X10_ownerOf n d 11 S [((c : Nat) : Int), (i : Int), (p : Int) - 1]) (ow V i p) S := by
  have hlen := tv_l hv
  intro p
  induction p with
  | zero =>
    intro _
    refine ev_up (fun n => e_X10_ownerOf_11) ?_
    unfold b_X10_ownerOf_11
    repeat' (first
      | with_reducible refine ev_gv ?_
      | with_reducible refine ev_gg ?_ ?_
      | with_reducible refine ev_ite (fun _ => ?_) (fun _ => ?_)
      | omega
      | assumption)
    exact ev_ret ⟨rfl, rfl⟩
  | succ p ih =>
    intro hp
    have e : afI V (p : Int) = (p : Int) + nz V p := if_pos (by omega)
    have hz := pz_of hv.2.2.2 p
    have r := (tv_r hv (i := p) (by omega)).2.2.2.1
    have r' : nz V p ≤ 100 := r
    have k := ih (by omega)
    rw [show ((p + 1 : Nat) : Int) - 1 = (p : Int) by omega]
    unfold ow
    refine ev_up (fun n => e_X10_ownerOf_11) ?_
    unfold b_X10_ownerOf_11
    repeat' (first
      | with_reducible refine ev_gv ?_
      | with_reducible refine ev_gg ?_ ?_
      | with_reducible refine ev_ite (fun _ => ?_) (fun _ => ?_)
      | refine ev_gcr (t_after hc hv (i := (p : Int)) (by constructor <;> omega)) ?_
      | omega
      | assumption)
    · rw [if_neg (by omega)]
      exact k
    · rw [if_pos (by omega)]
      exact ev_ret ⟨rfl, rfl⟩
theorem t_ownerOf {i : Nat} (hc : gT c) (hv : TV S c V) (hd : 1 ≤ d) (hi : i < V.length) : Rd (fun n => f_X10_ownerOf n d 0 S [((c : Nat) : Int), (i : Int)]) (owI V i) S := by
  have h1 := tv_n hv
  have hlen := tv_l hv
  have k := owner_11 hc hv hd hi i (Nat.le_refl _)
  refine ev_up (fun n => e_X10_ownerOf_0) ?_
  unfold b_X10_ownerOf_0
  rw [h1]
  repeat' (first
    | with_reducible refine ev_gv ?_
    | with_reducible refine ev_gg ?_ ?_
    | with_reducible refine ev_ite (fun _ => ?_) (fun _ => ?_)
    | omega
    | assumption)
  rw [show min (i : Int) (V.length : Int) = (i : Int) by omega]
  exact k
theorem ow_r (V : List ND) (i : Nat) : ∀ p, ow V i p < p ∧ -1 ≤ ow V i p
  | 0 => by unfold ow; omega
  | p + 1 => by
    have := ow_r V i p
    unfold ow
    split <;> omega
theorem t_placeOf {i : Nat} (hc : gT c) (hv : TV S c V) (hw : WF V) (hd : 2 ≤ d) (hi : i < V.length) : Rd (fun n => f_X10_placeOf n d 0 S [((c : Nat) : Int), (i : Int)]) (if 0 ≤ owI V i then plK i (kids V (owI V i).toNat) 0 else -1) S := by
  have hz := pz_of hv.2.2.2
  have hlen := tv_l hv
  have r := ow_r V i i
  have hr : owI V i = ow V i i := rfl
  by_cases ho : 0 ≤ owI V i
  · obtain ⟨g, hg⟩ : ∃ g : Nat, owI V i = (g : Int) := ⟨(owI V i).toNat, by omega⟩
    have w1 := hw.1 g (by omega)
    rw [if_pos ho, hg, Int.toNat_natCast]
    refine ev_up (fun n => e_X10_placeOf_0) ?_
    unfold b_X10_placeOf_0
    repeat' (first
      | with_reducible refine ev_gv ?_
      | with_reducible refine ev_gg ?_ ?_
      | with_reducible refine ev_ite (fun _ => ?_) (fun _ => ?_)
      | refine ev_gcr (rd_as (t_ownerOf hc hv (by omega) hi) hg) ?_
      | refine ev_gcr (t_first hc hv hw (by omega)) ?_
      | omega
      | assumption)
    exact placeOf_L hc hv hw hz (by omega) (by omega) hi _ (g + 1) 0 (Nat.lt_succ_self _) (by omega) (by omega)
  · rw [if_neg ho]
    have k0 : Rd (fun k => f_X10_placeOf k d 15 S [((c : Nat) : Int), (i : Int), -1, -1, 0]) (-1) S := by
      refine ev_up (fun n => e_X10_placeOf_15) ?_
      unfold b_X10_placeOf_15
      repeat' (first
        | with_reducible refine ev_gv ?_
        | with_reducible refine ev_gg ?_ ?_
        | with_reducible refine ev_ite (fun _ => ?_) (fun _ => ?_)
        | omega
        | assumption)
      all_goals exact ev_ret ⟨rfl, rfl⟩
    refine ev_up (fun n => e_X10_placeOf_0) ?_
    unfold b_X10_placeOf_0
    repeat' (first
      | with_reducible refine ev_gv ?_
      | with_reducible refine ev_gg ?_ ?_
      | with_reducible refine ev_ite (fun _ => ?_) (fun _ => ?_)
      | refine ev_gcr (rd_as (t_ownerOf hc hv (by omega) hi) (show owI V i = -1 by omega)) ?_
      | refine ev_gcr (t_firstX hc hv (by omega) (by decide)) ?_
      | omega
      | assumption)
    all_goals exact k0
theorem dpF_r (V : List ND) : ∀ f i, 0 ≤ dpF f V i ∧ dpF f V i ≤ f + 1
  | 0, i => by unfold dpF; split <;> omega
  | f + 1, i => by
    unfold dpF
    have key : ∀ (l : List Nat) (a : Int), 0 ≤ a → a ≤ f + 1 → 0 ≤ l.foldl (fun a k => max a (dpF f V k)) a ∧ l.foldl (fun a k => max a (dpF f V k)) a ≤ f + 1 := by
      intro l
      induction l with
      | nil => intro a h1 h2; exact ⟨h1, h2⟩
      | cons k l ih =>
        intro a h1 h2
        have := dpF_r V f k
        exact ih (max a (dpF f V k)) (by omega) (by omega)
    have := key (kids V i) 0 (by omega) (by omega)
    split <;> omega
theorem t_depth (hc : gT c) (hv : TV S c V) (hw : WF V) : ∀ (f i d : Nat), f ≤ 13 → i < V.length → f + 2 ≤ d → Rd (fun n => f_X10_depth n d 0 S [((c : Nat) : Int), (i : Int), 13 - (f : Int)]) (dpF f V i) S := by
  have hz := pz_of hv.2.2.2
  have hlen := tv_l hv
  intro f
  induction f with
  | zero =>
    intro i d hf hi hd
    have e : isG V (i : Int) = if 4 ≤ nk V i then 1 else 0 := by
      unfold isG
      rw [Int.toNat_natCast]
      by_cases h : 4 ≤ nk V i
      · rw [if_pos ⟨by omega, h⟩, if_pos h]
      · rw [if_neg (fun q => h q.2), if_neg h]
    have e2 : afI V (i : Int) = (i : Int) + nz V i := if_pos (by omega)
    have w1 := hw.1 i hi
    unfold dpF
    by_cases h : 4 ≤ nk V i
    · rw [if_pos h] at e ⊢
      have k : Rd (fun n => f_X10_depth n d 20 S [((c : Nat) : Int), (i : Int), 13, 0, (i : Int) + 1, 0]) 1 S := by
        refine ev_up (fun n => e_X10_depth_20) ?_
        unfold b_X10_depth_20
        repeat' (first
          | with_reducible refine ev_gv ?_
          | with_reducible refine ev_gg ?_ ?_
          | with_reducible refine ev_ite (fun _ => ?_) (fun _ => ?_)
          | refine ev_gcr (t_after hc hv (i := (i : Int)) (by constructor <;> omega)) ?_
          | omega
          | assumption)
        all_goals exact ev_ret ⟨by omega, rfl⟩
      refine ev_up (fun n => e_X10_depth_0) ?_
      unfold b_X10_depth_0
      repeat' (first
        | with_reducible refine ev_gv ?_
        | with_reducible refine ev_gg ?_ ?_
        | with_reducible refine ev_ite (fun _ => ?_) (fun _ => ?_)
        | refine ev_gcr (rd_as (t_isGroup hc hv (i := (i : Int)) (by constructor <;> omega)) e) ?_
        | omega
        | assumption)
      all_goals exact k
    · rw [if_neg h] at e ⊢
      refine ev_up (fun n => e_X10_depth_0) ?_
      unfold b_X10_depth_0
      repeat' (first
        | with_reducible refine ev_gv ?_
        | with_reducible refine ev_gg ?_ ?_
        | with_reducible refine ev_ite (fun _ => ?_) (fun _ => ?_)
        | refine ev_gcr (rd_as (t_isGroup hc hv (i := (i : Int)) (by constructor <;> omega)) e) ?_
        | omega
        | assumption)
      all_goals exact ev_ret ⟨rfl, rfl⟩
  | succ f ih =>
    intro i d hf hi hd
    have e : isG V (i : Int) = if 4 ≤ nk V i then 1 else 0 := by
      unfold isG
      rw [Int.toNat_natCast]
      by_cases h : 4 ≤ nk V i
      · rw [if_pos ⟨by omega, h⟩, if_pos h]
      · rw [if_neg (fun q => h q.2), if_neg h]
    have e2 : afI V (i : Int) = (i : Int) + nz V i := if_pos (by omega)
    have w1 := hw.1 i hi
    unfold dpF
    by_cases h : 4 ≤ nk V i
    · rw [if_pos h] at e ⊢
      have loop : ∀ (m j : Nat) (a q : Int), i + nz V i - j < m → i < j → j ≤ 100 → 0 ≤ a → a ≤ 100 → 0 ≤ q → q < j → Rd (fun n => f_X10_depth n d 20 S [((c : Nat) : Int), (i : Int), 13 - ((f + 1 : Nat) : Int), a, (j : Int), q]) ((ks V j (i + nz V i)).foldl (fun a k => max a (dpF f V k)) a + 1) S := by
        intro m
        induction m with
        | zero => intros; omega
        | succ m ihm =>
          intro j a q h1 h2 h3 h4 h5 h6 h7
          by_cases hj : j < i + nz V i
          · have w2 := hw.2.1 i j h2 hj
            have z := hz j
            have k := ih j (d - 1) (by omega) (by omega) (by omega)
            rw [show 13 - (f : Int) = 13 - ((f + 1 : Nat) : Int) + 1 by omega] at k
            have r := dpF_r V f j
            have e3 : afI V (j : Int) = (j : Int) + nz V j := if_pos (by omega)
            have km := ihm (j + nz V j) (max a (dpF f V j)) (q + 1) (by omega) (by omega) (by omega) (by omega) (by omega) (by omega) (by omega)
            rw [show ((j + nz V j : Nat) : Int) = (j : Int) + (nz V j : Int) by omega] at km
            rw [ks_cons hz hj]
            refine ev_up (fun n => e_X10_depth_20) ?_
            unfold b_X10_depth_20
            repeat' (first
              | with_reducible refine ev_gv ?_
              | with_reducible refine ev_gg ?_ ?_
              | with_reducible refine ev_ite (fun _ => ?_) (fun _ => ?_)
              | refine ev_gcr (rd_as (t_after hc hv (i := (i : Int)) (by constructor <;> omega)) e2) ?_
              | refine ev_gcr (k) ?_
              | refine ev_gcr (rd_as (t_after hc hv (i := (j : Int)) (by constructor <;> omega)) e3) ?_
              | omega
              | assumption)
            all_goals exact km
          · rw [ks_nil (by omega)]
            refine ev_up (fun n => e_X10_depth_20) ?_
            unfold b_X10_depth_20
            repeat' (first
              | with_reducible refine ev_gv ?_
              | with_reducible refine ev_gg ?_ ?_
              | with_reducible refine ev_ite (fun _ => ?_) (fun _ => ?_)
              | refine ev_gcr (rd_as (t_after hc hv (i := (i : Int)) (by constructor <;> omega)) e2) ?_
              | omega
              | assumption)
            all_goals exact ev_ret ⟨rfl, rfl⟩
      have k := loop _ (i + 1) 0 0 (Nat.lt_succ_self _) (by omega) (by omega) (by omega) (by omega) (by omega) (by omega)
      rw [show ((i + 1 : Nat) : Int) = (i : Int) + 1 by omega] at k
      refine ev_up (fun n => e_X10_depth_0) ?_
      unfold b_X10_depth_0
      repeat' (first
        | with_reducible refine ev_gv ?_
        | with_reducible refine ev_gg ?_ ?_
        | with_reducible refine ev_ite (fun _ => ?_) (fun _ => ?_)
        | refine ev_gcr (rd_as (t_isGroup hc hv (i := (i : Int)) (by constructor <;> omega)) e) ?_
        | omega
        | assumption)
      all_goals exact k
    · rw [if_neg h] at e ⊢
      refine ev_up (fun n => e_X10_depth_0) ?_
      unfold b_X10_depth_0
      repeat' (first
        | with_reducible refine ev_gv ?_
        | with_reducible refine ev_gg ?_ ?_
        | with_reducible refine ev_ite (fun _ => ?_) (fun _ => ?_)
        | refine ev_gcr (rd_as (t_isGroup hc hv (i := (i : Int)) (by constructor <;> omega)) e) ?_
        | omega
        | assumption)
      all_goals exact ev_ret ⟨rfl, rfl⟩

end AB
