/-! PATCHES: of two ROWS -/
theorem stp_len {S : GS} {c : Nat} {V : List ND} (hv : TV S c V) (i : Nat) (hi : i < V.length) : (stp V i).length ≤ 25 := by
  unfold stp
  rw [List.length_append]
  have k := (tv_r hv hi).2.2.2.2.2.2.2.2.1
  have k' : (nq V i).length ≤ 12 := k
  have fm : ∀ l : List Int, (l.flatMap esc).length ≤ 2 * l.length := by
    intro l
    induction l with
    | nil => exact Nat.le_refl _
    | cons x l ih =>
      have := esc_len x
      simp only [List.flatMap_cons, List.length_append, List.length_cons]
      omega
  have w := wnum_len (max 0 (plI V i))
  split
  · have := fm (nq V i)
    show 1 + _ ≤ 25
    omega
  · show 1 + _ ≤ 25
    omega
theorem stp_r {S : GS} {c : Nat} {V : List ND} (hv : TV S c V) (i : Nat) (hi : i < V.length) : ∀ x ∈ stp V i, 0 ≤ x ∧ x < 256 := by
  intro x hx
  unfold stp at hx
  rcases List.mem_append.mp hx with h | h
  · simp only [List.mem_cons, List.not_mem_nil, or_false] at h
    omega
  · split at h
    · obtain ⟨y, hy, hx'⟩ := List.mem_flatMap.mp h
      have k := (tv_r hv hi).2.2.2.2.2.2.2.2.2 y hy
      unfold esc at hx'
      split at hx'
      · simp only [List.mem_cons, List.not_mem_nil, or_false] at hx'; omega
      · split at hx'
        · simp only [List.mem_cons, List.not_mem_nil, or_false] at hx'; omega
        · simp only [List.mem_cons, List.not_mem_nil, or_false] at hx'; omega
    · exact wnum_r (by omega) x h
abbrev orM : Nat → Prop := fun k => trM 320 k ∨ k = 446 ∨ k = 447 ∨ (477 ≤ k ∧ k ≤ 481)
/-- what the making of a PATCH rests on -/
def OrS (cA cB : Nat) (V U : List ND) (p : List Int) (os : Option (List (List ND))) (S0 S : GS) : Prop := (S.2.2 477 5 = 320 ∧ S.2.2 477 6 = cA ∧ S.2.2 477 7 = cB) ∧ (TO cA (V, false) S ∧ TO cB (U, false) S) ∧ (SV S 446 p ∧ ∀ x ∈ p, x < 256) ∧ LsR os S ∧ Fr orM S0 S ∧ Good S
def rvF (p : List Int) (M : List Nat) : Nat → Option (List (List ND)) → Option (List (List ND))
  | 0, os => os
  | k + 1, os => rvF p M k (if k ∈ M then os else addS os 25 (p ++ 47 :: wnum (k : Int)) [])
def adF (U : List ND) (K2 : List Nat) (p : List Int) (M : List Nat) : Nat → Nat → Option (List (List ND)) → Option (List (List ND))
  | 0, _, os => os
  | f + 1, k, os => adF U K2 p M f (k + 1) (if k ∈ M then os else addS os 26 (p ++ 47 :: wnum (k : Int)) [sg U (K2.getD k 0)])
/-- ORDERS for two ROWS -/
def btR (V U : List ND) (p : List Int) (i j : Nat) (os : Option (List (List ND))) : Option (List (List ND)) :=
  adF U (kids U j) p ((mkP (eqV V U (kids V i) (kids U j)) (kids V i).length (kids U j).length 200 0 0).map Prod.snd) (kids U j).length 0 (rvF p ((mkP (eqV V U (kids V i) (kids U j)) (kids V i).length (kids U j).length 200 0 0).map Prod.fst) (kids V i).length os)
section ROW
variable {S S0 : GS} {cA cB d : Nat} {V U : List ND} {p : List Int} {os : Option (List (List ND))}
theorem os_fr {S1 : GS} {M : Nat → Prop} (hA : gT cA ∧ cA < 320) (hB : gT cB ∧ cB < 320) (h : OrS cA cB V U p os S0 S) (hf : Fr M S S1) (hM : ∀ k, M k → k = 478 ∨ k = 479 ∨ k = 480 ∨ k = 481) (hG : Good S1) : OrS cA cB V U p os S0 S1 := by
  obtain ⟨⟨h1, h2, h3⟩, ⟨h4, h5⟩, ⟨h6, h7⟩, h8, h9, h10⟩ := h
  have n477 : ¬ M 477 := fun z => by have := hM _ z; omega
  refine ⟨⟨by rw [(hf _ n477).2.2]; exact h1, by rw [(hf _ n477).2.2]; exact h2, by rw [(hf _ n477).2.2]; exact h3⟩, ⟨to_fr h4 hf (fun k a b z => by have := hM _ z; omega), to_fr h5 hf (fun k a b z => by have := hM _ z; omega)⟩, ⟨sv_fr h6 hf (fun z => by have := hM _ z; omega) (fun z => by have := hM _ z; omega), h7⟩, ls_fr h8 hf (fun k a b z => by have := hM _ z; omega), fr_tr h9 (fr_mono hf (fun k z => by have := hM k z; unfold orM; omega)), hG⟩
/-- the PATH changes -/
theorem os_sx {S1 : GS} {p1 : List Int} (hA : gT cA ∧ cA < 320) (hB : gT cB ∧ cB < 320) (h : OrS cA cB V U p os S0 S) (hs : SX 446 S p1 S1) (hp : ∀ x ∈ p1, x < 256) : OrS cA cB V U p1 os S0 S1 := by
  obtain ⟨⟨h1, h2, h3⟩, ⟨h4, h5⟩, ⟨h6, h7⟩, h8, h9, h10⟩ := h
  have f := hs.2.1
  have n477 : ¬ shM 446 477 := by unfold shM; omega
  exact ⟨⟨by rw [(f _ n477).2.2]; exact h1, by rw [(f _ n477).2.2]; exact h2, by rw [(f _ n477).2.2]; exact h3⟩, ⟨to_fr h4 f (fun k a b => by unfold shM; omega), to_fr h5 f (fun k a b => by unfold shM; omega)⟩, ⟨hs.1, hp⟩, ls_fr h8 f (fun k a b => by unfold shM; omega), fr_tr h9 (fr_mono f (fun k z => by unfold shM at z; unfold orM; omega)), hs.2.2⟩
/-- an ORDER comes -/
theorem os_add {S1 : GS} {os1 : Option (List (List ND))} (hA : gT cA ∧ cA < 320) (hB : gT cB ∧ cB < 320) (h : OrS cA cB V U p os S0 S) (hl : LsR os1 S1) (f : Fr (trM 320) S S1) (hG : Good S1) : OrS cA cB V U p os1 S0 S1 := by
  obtain ⟨⟨h1, h2, h3⟩, ⟨h4, h5⟩, ⟨h6, h7⟩, h8, h9, h10⟩ := h
  have n477 : ¬ trM 320 477 := by unfold trM; omega
  exact ⟨⟨by rw [(f _ n477).2.2]; exact h1, by rw [(f _ n477).2.2]; exact h2, by rw [(f _ n477).2.2]; exact h3⟩, ⟨to_fr h4 f (fun k a b => by unfold trM; omega), to_fr h5 f (fun k a b => by unfold trM; omega)⟩, ⟨sv_fr h6 f (by unfold trM; omega) (by unfold trM; omega), h7⟩, hl, fr_tr h9 (fr_mono f (fun k z => Or.inl z)), hG⟩
theorem or_place {op k : Nat} {v : Int} {S1 : GS} {Q : Int → GS → Prop} {m : Nat → GS → Option (Int × GS)} (hA : gT cA ∧ cA < 320) (hB : gT cB ∧ cB < 320) (hop : 21 ≤ op ∧ op ≤ 30) (hd : 10 ≤ d) (hU : WF U) (h : OrS cA cB V U p os S0 S) (hpl : p.length ≤ 390) (hk : k < 100) (hin : v = -1 ∨ (0 ≤ v ∧ v < (U.length : Int))) (nx : ∀ S1, OrS cA cB V U p (addS os op (p ++ 47 :: wnum (k : Int)) (vL U v)) S0 S1 → (∀ c, c = 480 ∨ c = 481 → S1.1 c = S.1 c) → Ev (fun n => m n S1) Q) : Ev (fun n => gc (f_X5_addAtPlace n (d - 1) 0 S [((op : Nat) : Int), (k : Int), v]) fun _ S_13 => gc (f_X9_shorten n (d - 1) 0 S_13 [((446 : Nat) : Int), (p.length : Int)]) fun _ S_16 => m n S_16) Q := by
  have g400 : g_room 447 = 400 := rfl
  have wl := wnum_len (k : Int)
  have ap : Ev (fun n => f_X5_addAtPlace n (d - 1) 0 S [((op : Nat) : Int), (k : Int), v]) (fun _ S1 => OrS cA cB V U (p ++ 47 :: wnum (k : Int)) (addS os op (p ++ 47 :: wnum (k : Int)) (vL U v)) S0 S1 ∧ (∀ c, c = 480 ∨ c = 481 → S1.1 c = S.1 c)) := by
    refine ev_up (fun n => e_X5_addAtPlace_0) ?_
    unfold b_X5_addAtPlace_0
    refine ev_gg (by omega) ?_
    refine ev_gc (sx_add gSh446 (sx_rf h.2.2.2.2.2 h.2.2.1.1) (by decide) (by show p.length < 400; omega)) (fun _ S1 s1 => ?_)
    refine ev_gc (s9_addNumber (d := d - 1 - 1) (x := (k : Int)) gSh446 (by omega) s1 (by omega) (by show _ ≤ 400; simp; omega)) (fun _ S2 s2 => ?_)
    have ea : p ++ [47] ++ wnum (k : Int) = p ++ 47 :: wnum (k : Int) := by simp
    rw [ea] at s2
    have hp2 : ∀ x ∈ p ++ 47 :: wnum (k : Int), x < 256 := fun x hx => by
      rcases List.mem_append.mp hx with w | w
      · exact h.2.2.1.2 x w
      · rcases List.mem_cons.mp w with w | w
        · omega
        · exact (wnum_r (by omega) x w).2
    have h2 := os_sx hA hB h s2 hp2
    rw [h2.1.1, h2.1.2.2]
    refine ev_gv ?_
    refine ev_gv ?_
    refine ev_gc (or_one (d := d - 1 - 1) (op := op) (v := v) hop hB.1 hB.2 (by omega) h2.2.1.2 hU hin h2.2.2.1.1 hp2 h2.2.2.2.1 h2.2.2.2.2.2) (fun _ S3 q3 => ?_)
    refine ev_ret ⟨os_add hA hB h2 q3.1 q3.2.1 q3.2.2, fun c hc => ?_⟩
    rw [(q3.2.1 c (by unfold trM; omega)).1, (s2.2.1 c (by unfold shM; omega)).1]
  refine ev_gc ap (fun _ S1 q1 => ?_)
  refine ev_gc (s9_shorten (d := d - 1) (k := p.length) gSh446 (sx_rf q1.1.2.2.2.2.2 q1.1.2.2.1.1) (by simp)) (fun _ S2 s2 => ?_)
  rw [List.take_left' rfl] at s2
  refine nx S2 (os_sx hA hB q1.1 s2 h.2.2.1.2) (fun c hc => ?_)
  rw [(s2.2.1 c (by unfold shM; omega)).1, q1.2 c hc]
theorem rows_112 {K2 M : List Nat} (hA : gT cA ∧ cA < 320) (hB : gT cB ∧ cB < 320) (hd : 12 ≤ d) (hU : WF U) (hpl : p.length ≤ 390) (hK : ∀ k ∈ K2, k < U.length) (l2 : K2.length ≤ 99) : ∀ (f k : Nat) (S : GS) (os : Option (List (List ND))), f + k = K2.length → (∀ k, k < K2.length → S.1 481 k = mkA K2 M k) → OrS cA cB V U p os S0 S → Ev (fun n => f_X5_betweenRows n d 112 S [(K2.length : Int), (p.length : Int), (k : Int)]) (fun _ S1 => OrS cA cB V U p (adF U K2 p M f k os) S0 S1) := by
  intro f
  induction f with
  | zero =>
    intro k S os hk h1 h
    refine ev_up (fun n => e_X5_betweenRows_112) ?_
    unfold b_X5_betweenRows_112
    repeat' (first
      | with_reducible refine ev_gv ?_
      | with_reducible refine ev_gg ?_ ?_
      | with_reducible refine ev_ite (fun _ => ?_) (fun _ => ?_)
      | omega
      | assumption)
    exact ev_ret h
  | succ f ih =>
    intro k S os hk h1 h
    have e := h1 k (by omega)
    have lU : U.length ≤ 100 := tv_l h.2.1.2.1
    have gk := hK _ (gDn_mem (l := K2) (j := k) (by omega))
    show Ev _ (fun _ S1 => OrS cA cB V U p (adF U K2 p M f (k + 1) (if k ∈ M then os else addS os 26 (p ++ 47 :: wnum (k : Int)) [sg U (K2.getD k 0)])) S0 S1)
    by_cases c : k ∈ M
    · rw [if_pos c]
      have e' : S.1 481 k = -1 := by rw [e]; unfold mkA; rw [if_pos c]
      have k' := ih (k + 1) S os (by omega) h1 h
      refine ev_up (fun n => e_X5_betweenRows_112) ?_
      unfold b_X5_betweenRows_112
      refine ev_gg (by constructor <;> omega) ?_
      refine ev_gg (by constructor <;> omega) ?_
      refine ev_ite (fun z => by omega) (fun _ => ?_)
      refine ev_ite (fun z => by omega) (fun _ => ?_)
      refine ev_gg (by omega) ?_
      rw [Int.toNat_natCast, e']
      refine ev_gv ?_
      refine ev_gg (by decide) ?_
      refine ev_ite (fun _ => ?_) (fun z => absurd rfl z)
      refine ev_gv ?_
      exact k'
    · rw [if_neg c]
      have e' : S.1 481 k = (K2.getD k 0 : Int) := by rw [e]; unfold mkA; rw [if_neg c]
      refine ev_up (fun n => e_X5_betweenRows_112) ?_
      unfold b_X5_betweenRows_112
      refine ev_gg (by constructor <;> omega) ?_
      refine ev_gg (by constructor <;> omega) ?_
      refine ev_ite (fun z => by omega) (fun _ => ?_)
      refine ev_ite (fun z => by omega) (fun _ => ?_)
      refine ev_gg (by omega) ?_
      rw [Int.toNat_natCast, e']
      refine ev_gv ?_
      refine ev_gg (by constructor <;> omega) ?_
      refine ev_ite (fun z => by omega) (fun _ => ?_)
      refine ev_gv ?_
      refine ev_gg (by omega) ?_
      refine or_place (S1 := S) (d := d) (op := 26) (k := k) (v := ((K2.getD k 0 : Nat) : Int)) (m := fun n S_19 => gv ((k : Int) + 1) fun x21 => f_X5_betweenRows n d 112 S_19 [(K2.length : Int), (p.length : Int), x21]) hA hB (by decide) (by omega) hU h hpl (by omega) (Or.inr (by omega)) (fun S1 q1 low => ?_)
      have ev : vL U ((K2.getD k 0 : Nat) : Int) = [sg U (K2.getD k 0)] := by unfold vL; rw [if_neg (by omega), Int.toNat_natCast]
      rw [ev] at q1
      refine ev_gv ?_
      exact ih (k + 1) S1 _ (by omega) (fun k' hk' => by rw [low 481 (Or.inr rfl)]; exact h1 k' hk') q1
theorem rows_62 {K1 K2 M M2 : List Nat} (hA : gT cA ∧ cA < 320) (hB : gT cB ∧ cB < 320) (hd : 12 ≤ d) (hU : WF U) (hpl : p.length ≤ 390) (hK : ∀ k ∈ K2, k < U.length) (l1 : K1.length ≤ 99) (l2 : K2.length ≤ 99) : ∀ (k : Nat) (S : GS) (os : Option (List (List ND))), k ≤ K1.length → (∀ k, k < K1.length → S.1 480 k = mkA K1 M k) → (∀ k ∈ K1, k < 100) → (∀ k, k < K2.length → S.1 481 k = mkA K2 M2 k) → OrS cA cB V U p os S0 S → Ev (fun n => f_X5_betweenRows n d 62 S [(K2.length : Int), (p.length : Int), (k : Int) - 1]) (fun _ S1 => OrS cA cB V U p (adF U K2 p M2 K2.length 0 (rvF p M k os)) S0 S1) := by
  intro k
  induction k with
  | zero =>
    intro S os hk h1 hK1 h2 h
    have k' := rows_112 (d := d) (M := M2) (S0 := S0) hA hB hd hU hpl hK l2 K2.length 0 S os (by omega) h2 h
    refine ev_up (fun n => e_X5_betweenRows_62) ?_
    unfold b_X5_betweenRows_62
    repeat' (first
      | with_reducible refine ev_gv ?_
      | with_reducible refine ev_gg ?_ ?_
      | with_reducible refine ev_ite (fun _ => ?_) (fun _ => ?_)
      | omega
      | assumption)
    all_goals exact k'
  | succ k ih =>
    intro S os hk h1 hK1 h2 h
    have e := h1 k (by omega)
    have gk := hK1 _ (gDn_mem (l := K1) (j := k) (by omega))
    show Ev _ (fun _ S1 => OrS cA cB V U p (adF U K2 p M2 K2.length 0 (rvF p M k (if k ∈ M then os else addS os 25 (p ++ 47 :: wnum (k : Int)) []))) S0 S1)
    rw [show ((k + 1 : Nat) : Int) - 1 = (k : Int) by omega]
    by_cases c : k ∈ M
    · rw [if_pos c]
      have e' : S.1 480 k = -1 := by rw [e]; unfold mkA; rw [if_pos c]
      have k' := ih S os (by omega) h1 hK1 h2 h
      refine ev_up (fun n => e_X5_betweenRows_62) ?_
      unfold b_X5_betweenRows_62
      refine ev_gg (by constructor <;> omega) ?_
      refine ev_ite (fun z => by omega) (fun _ => ?_)
      refine ev_ite (fun z => by omega) (fun _ => ?_)
      refine ev_gg (by omega) ?_
      rw [Int.toNat_natCast, e']
      refine ev_gv ?_
      refine ev_gg (by decide) ?_
      refine ev_ite (fun _ => ?_) (fun z => absurd rfl z)
      refine ev_gv ?_
      exact k'
    · rw [if_neg c]
      have e' : S.1 480 k = (K1.getD k 0 : Int) := by rw [e]; unfold mkA; rw [if_neg c]
      refine ev_up (fun n => e_X5_betweenRows_62) ?_
      unfold b_X5_betweenRows_62
      refine ev_gg (by constructor <;> omega) ?_
      refine ev_ite (fun z => by omega) (fun _ => ?_)
      refine ev_ite (fun z => by omega) (fun _ => ?_)
      refine ev_gg (by omega) ?_
      rw [Int.toNat_natCast, e']
      refine ev_gv ?_
      refine ev_gg (by constructor <;> omega) ?_
      refine ev_ite (fun z => by omega) (fun _ => ?_)
      refine ev_gg (by omega) ?_
      refine or_place (S1 := S) (d := d) (op := 25) (k := k) (v := -1) (m := fun n S_16 => gv ((k : Int) + (-1)) fun x18 => f_X5_betweenRows n d 62 S_16 [(K2.length : Int), (p.length : Int), x18]) hA hB (by decide) (by omega) hU h hpl (by omega) (Or.inl rfl) (fun S1 q1 low => ?_)
      have ev : vL U (-1) = [] := by unfold vL; rw [if_pos rfl]
      rw [ev] at q1
      refine ev_gv ?_
      exact ih S1 _ (by omega) (fun k' hk' => by rw [low 480 (Or.inl rfl)]; exact h1 k' hk') hK1 (fun k' hk' => by rw [low 481 (Or.inr rfl)]; exact h2 k' hk') q1
theorem or_rows {i j : Nat} (hA : gT cA ∧ cA < 320) (hB : gT cB ∧ cB < 320) (hd : 34 ≤ d) (hV : WF V) (hU : WF U) (hpl : p.length ≤ 390) (hi : i < V.length) (hj : j < U.length) (h : OrS cA cB V U p os S0 S) : Ev (fun n => f_X5_betweenRows n d 0 S [(i : Int), (j : Int)]) (fun _ S1 => OrS cA cB V U p (btR V U p i j os) S0 S1) := by
  have zV : PZ V := pz_l (nr_pzl h.2.1.1.1.2.2.2)
  have zU : PZ U := pz_l (nr_pzl h.2.1.2.1.2.2.2)
  have lV : V.length ≤ 100 := tv_l h.2.1.1.1
  have lU : U.length ≤ 100 := tv_l h.2.1.2.1
  have wi := hV.1 i hi
  have wj := hU.1 j hj
  have l1 : (kids V i).length ≤ 99 := by
    have := ks_len zV _ (i + 1) (i + nz V i) (Nat.lt_succ_self _)
    unfold kids
    omega
  have l2 : (kids U j).length ≤ 99 := by
    have := ks_len zU _ (j + 1) (j + nz U j) (Nat.lt_succ_self _)
    unfold kids
    omega
  have k1 : ∀ k ∈ kids V i, k < V.length := fun k hk => kids_in hV zV hi hk
  have k2 : ∀ k ∈ kids U j, k < U.length := fun k hk => kids_in hU zU hj hk
  refine ev_up (fun n => e_X5_betweenRows_0) ?_
  unfold b_X5_betweenRows_0
  rw [h.1.2.1]
  refine ev_gv ?_
  refine ev_gg (by omega) ?_
  refine ev_gc (or_gather (d := d - 1) (dst := 480) hA.1 (by omega) h.2.1.1.1 hV hi (Or.inl rfl) h.2.2.2.2.2) (fun x S1 q1 => ?_)
  obtain ⟨rfl, g1, m1, G1⟩ := q1
  have h1 := os_fr hA hB h m1 (fun k z => by omega) G1
  rw [h1.1.2.2]
  refine ev_gv ?_
  refine ev_gc (or_gather (d := d - 1) (dst := 481) hB.1 (by omega) h1.2.1.2.1 hU hj (Or.inr rfl) G1) (fun x S2 q2 => ?_)
  obtain ⟨rfl, g2, m2, G2⟩ := q2
  have h2 := os_fr hA hB h1 m2 (fun k z => by omega) G2
  have g1' : ∀ k, k < (kids V i).length → S2.1 480 k = ((kids V i).getD k 0 : Int) := fun k hk => by rw [(m2 480 (by omega)).1]; exact g1 k hk
  have rw2 : RwS cA cB V U (kids V i) (kids U j) S2 := ⟨h2.1.2.1, h2.1.2.2, h2.2.1.1.1, h2.2.1.2.1, g1', g2⟩
  refine ev_gc (or_match (d := d - 1) (K1 := kids V i) (K2 := kids U j) hA.1 hB.1 hV hU k1 k2 l1 l2 (by omega) rw2 G2) (fun _ S3 q3 => ?_)
  obtain ⟨e3, rw3, m3, G3⟩ := q3
  have h3 := os_fr hA hB h2 m3 (fun k z => by omega) G3
  refine ev_gc (or_count (d := d - 1) (eq := eqV V U (kids V i) (kids U j)) (n := (kids V i).length) (m := (kids U j).length) l1 l2 (by omega) e3 G3) (fun _ S4 q4 => ?_)
  obtain ⟨e4, m4, G4⟩ := q4
  have h4 := os_fr hA hB h3 m4 (fun k z => by omega) G4
  have rw4 := rw_fr (by omega) (by omega) hA.1.1 hB.1.1 rw3 m4 (fun k z => Or.inr z)
  refine ev_gc (or_mark (d := d - 1) (eq := eqV V U (kids V i) (kids U j)) (K1 := kids V i) (K2 := kids U j) l1 l2 (by omega) (fun a b ha hb => by rw [(m4 478 (by omega)).2.1]; exact e3 a b ha hb) e4 rw4.2.2.2.2.1 rw4.2.2.2.2.2 G4) (fun _ S5 q5 => ?_)
  obtain ⟨a5, b5, m5, G5⟩ := q5
  have h5 := os_fr hA hB h4 m5 (fun k z => by omega) G5
  refine ev_gcr (s9_length gSh446 h5.2.2.1.1) ?_
  refine ev_gv ?_
  exact rows_62 (d := d) (K1 := kids V i) (K2 := kids U j) (S0 := S0) hA hB (by omega) hU hpl k2 l1 l2 (kids V i).length S5 os (Nat.le_refl _) a5 (fun k hk => by have := k1 k hk; omega) b5 h5
end ROW
