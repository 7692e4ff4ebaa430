/-! PATCHES: pairs are marked; ORDERS are gathered -/
/-- what a row holds once some of its places are marked -/
def mkA (K M : List Nat) (k : Nat) : Int := if k ∈ M then -1 else (K.getD k 0 : Int)
section MRK
variable {S S0 : GS} {cA cB d : Nat} {V U : List ND}
theorem or_mark {eq : Nat → Nat → Bool} {K1 K2 : List Nat} (l1 : K1.length ≤ 99) (l2 : K2.length ≤ 99) (hd : 1 ≤ d) (he : ∀ a b, a < K1.length → b < K2.length → S.2.1 478 (100 * a + b) = eq a b) (hp : ∀ a b, a ≤ K1.length → b ≤ K2.length → S.1 479 (100 * a + b) = (lcV eq K1.length K2.length a b : Int)) (h1 : ∀ k, k < K1.length → S.1 480 k = (K1.getD k 0 : Int)) (h2 : ∀ k, k < K2.length → S.1 481 k = (K2.getD k 0 : Int)) (hG : Good S) : Ev (fun q => f_X5_markPairs q d 0 S [(K1.length : Int), (K2.length : Int)]) (fun _ S1 => (∀ k, k < K1.length → S1.1 480 k = mkA K1 ((mkP eq K1.length K2.length 200 0 0).map Prod.fst) k) ∧ (∀ k, k < K2.length → S1.1 481 k = mkA K2 ((mkP eq K1.length K2.length 200 0 0).map Prod.snd) k) ∧ Fr (fun k => k = 480 ∨ k = 481) S S1 ∧ Good S1) := by
  have main : ∀ (f i j t : Nat) (P : List (Nat × Nat)) (S1 : GS), f + t = 200 → i ≤ t ∧ j ≤ t → (K1.length - i) + (K2.length - j) < f → (∀ p ∈ P, p.1 < i ∧ p.2 < j) → (∀ k, k < K1.length → S1.1 480 k = mkA K1 (P.map Prod.fst) k) → (∀ k, k < K2.length → S1.1 481 k = mkA K2 (P.map Prod.snd) k) → Fr (fun k => k = 480 ∨ k = 481) S S1 → Good S1 → Ev (fun q => f_X5_markPairs q d 8 S1 [(K1.length : Int), (K2.length : Int), (i : Int), (j : Int), (t : Int)]) (fun _ S1 => (∀ k, k < K1.length → S1.1 480 k = mkA K1 ((P ++ mkP eq K1.length K2.length f i j).map Prod.fst) k) ∧ (∀ k, k < K2.length → S1.1 481 k = mkA K2 ((P ++ mkP eq K1.length K2.length f i j).map Prod.snd) k) ∧ Fr (fun k => k = 480 ∨ k = 481) S S1 ∧ Good S1) := by
    intro f
    induction f with
    | zero => intros; omega
    | succ f ih =>
      intro i j t P S1 hft hij hf hP g1 g2 hF hG1
      have e478 : S1.2.1 478 = S.2.1 478 := (hF 478 (by omega)).2.1
      have e479 : S1.1 479 = S.1 479 := (hF 479 (by omega)).1
      rw [mkP_s]
      by_cases c : K1.length ≤ i ∨ K2.length ≤ j
      · rw [if_pos c, List.append_nil]
        refine ev_up (fun n => e_X5_markPairs_8) ?_
        unfold b_X5_markPairs_8
        repeat' (first
          | with_reducible refine ev_gv ?_
          | with_reducible refine ev_gg ?_ ?_
          | with_reducible refine ev_ite (fun _ => ?_) (fun _ => ?_)
          | omega
          | assumption)
        all_goals exact ev_ret ⟨g1, g2, hF, hG1⟩
      · rw [if_neg c]
        have ii : i < K1.length := by omega
        have jj : j < K2.length := by omega
        have et : ((i : Int) * 100 + (j : Int)).toNat = 100 * i + j := by omega
        have ee : S1.2.1 478 (100 * i + j) = eq i j := by rw [e478]; exact he i j ii jj
        cases hq : eq i j with
        | true =>
          rw [if_pos rfl]
          have eb : bi (S1.2.1 478 ((i : Int) * 100 + (j : Int)).toNat) = 1 := by rw [et, ee, hq]; rfl
          have fr : Fr (fun k => k = 480 ∨ k = 481) S1 (gI (gI S1 480 i (-1)) 481 j (-1)) := fr_tr (fr_gI (Or.inl rfl)) (fr_gI (Or.inr rfl))
          have k := ih (i + 1) (j + 1) (t + 1) (P ++ [(i, j)]) (gI (gI S1 480 i (-1)) 481 j (-1)) (by omega) (by omega) (by omega) (fun p hp => by
            rcases List.mem_append.mp hp with w | w
            · have := hP p w; omega
            · simp only [List.mem_cons, List.not_mem_nil, or_false] at w
              rw [w]
              exact ⟨by show i < i + 1; omega, by show j < j + 1; omega⟩) (fun k hk => by
            rw [gI_c (by decide)]
            unfold mkA
            by_cases q : k = i
            · subst q
              rw [gI_a, if_pos (by simp)]
            · rw [gI_k q, g1 k hk]
              unfold mkA
              have : (k ∈ (P ++ [(i, j)]).map Prod.fst) ↔ k ∈ P.map Prod.fst := by simp [q]
              by_cases w : k ∈ P.map Prod.fst
              · rw [if_pos w, if_pos (this.mpr w)]
              · rw [if_neg w, if_neg (fun z => w (this.mp z))]) (fun k hk => by
            unfold mkA
            by_cases q : k = j
            · subst q
              rw [gI_a, if_pos (by simp)]
            · rw [gI_k q, gI_c (by decide), g2 k hk]
              unfold mkA
              have : (k ∈ (P ++ [(i, j)]).map Prod.snd) ↔ k ∈ P.map Prod.snd := by simp [q]
              by_cases w : k ∈ P.map Prod.snd
              · rw [if_pos w, if_pos (this.mpr w)]
              · rw [if_neg w, if_neg (fun z => w (this.mp z))]) (fr_tr hF fr) (good_gI (good_gI hG1 (by decide) (fun q => by unfold isC at q; omega)) (by decide) (fun q => by unfold isC at q; omega))
          rw [List.append_assoc] at k
          refine ev_up (fun n => e_X5_markPairs_8) ?_
          unfold b_X5_markPairs_8
          repeat' (first
            | with_reducible refine ev_gv ?_
            | with_reducible refine ev_gg ?_ ?_
            | with_reducible refine ev_ite (fun _ => ?_) (fun _ => ?_)
            | omega
            | assumption)
          all_goals exact k
        | false =>
          rw [if_neg (by decide)]
          have eb : bi (S1.2.1 478 ((i : Int) * 100 + (j : Int)).toNat) = 0 := by rw [et, ee, hq]; rfl
          have e1 : pfV S1 ((i : Int) + 1) (j : Int) = (lcV eq K1.length K2.length (i + 1) j : Int) := by
            unfold pfV
            rw [if_pos (by omega), show (((i : Int) + 1) * 100 + (j : Int)).toNat = 100 * (i + 1) + j by omega, e479]
            exact hp (i + 1) j (by omega) (by omega)
          have e2 : pfV S1 (i : Int) (j : Int) = (lcV eq K1.length K2.length i j : Int) := by
            unfold pfV
            rw [if_pos (by omega), et, e479]
            exact hp i j (by omega) (by omega)
          have rp1 := rd_as (or_pairs (S := S1) (d := d - 1) (a := (i : Int) + 1) (b := (j : Int)) (by constructor <;> omega) (by constructor <;> omega)) e1
          have rp2 := rd_as (or_pairs (S := S1) (d := d - 1) (a := (i : Int)) (b := (j : Int)) (by constructor <;> omega) (by constructor <;> omega)) e2
          have le1 := lcV_le (eq := eq) (n := K1.length) (m := K2.length) _ (i + 1) j (Nat.le_refl _)
          have le2 := lcV_le (eq := eq) (n := K1.length) (m := K2.length) _ i j (Nat.le_refl _)
          by_cases cl : lcV eq K1.length K2.length (i + 1) j = lcV eq K1.length K2.length i j
          · rw [if_pos cl]
            have k := ih (i + 1) j (t + 1) P S1 (by omega) (by omega) (by omega) (fun p hp => by have := hP p hp; omega) g1 g2 hF hG1
            refine ev_up (fun n => e_X5_markPairs_8) ?_
            unfold b_X5_markPairs_8
            repeat' (first
              | with_reducible refine ev_gv ?_
              | with_reducible refine ev_gg ?_ ?_
              | with_reducible refine ev_ite (fun _ => ?_) (fun _ => ?_)
              | refine ev_gcr (rp1) ?_
              | refine ev_gcr (rp2) ?_
              | omega
              | assumption)
            all_goals exact k
          · rw [if_neg cl]
            have k := ih i (j + 1) (t + 1) P S1 (by omega) (by omega) (by omega) (fun p hp => by have := hP p hp; omega) g1 g2 hF hG1
            refine ev_up (fun n => e_X5_markPairs_8) ?_
            unfold b_X5_markPairs_8
            repeat' (first
              | with_reducible refine ev_gv ?_
              | with_reducible refine ev_gg ?_ ?_
              | with_reducible refine ev_ite (fun _ => ?_) (fun _ => ?_)
              | refine ev_gcr (rp1) ?_
              | refine ev_gcr (rp2) ?_
              | omega
              | assumption)
            all_goals exact k
  refine ev_up (fun n => e_X5_markPairs_0) ?_
  unfold b_X5_markPairs_0
  exact main 200 0 0 0 [] S rfl (by omega) (by omega) (fun p hp => by cases hp) (fun k hk => by rw [h1 k hk]; unfold mkA; rw [if_neg (by simp)]) (fun k hk => by rw [h2 k hk]; unfold mkA; rw [if_neg (by simp)]) fr_rf hG
/-- ORDERS so far, in the tree that is made; none, if there were too many NODES, or a PATH too long -/
def LsR (os : Option (List (List ND))) (S : GS) : Prop := match os with
  | none => ∃ W : TW, W.2 = true ∧ TO 320 W S
  | some Os => TO 320 (gpN (ndK 4) Os 0, false) S ∧ ∀ t ∈ Os, TR t ∧ PZL t
def addS (os : Option (List (List ND))) (op : Nat) (p : List Int) (v : List (List ND)) : Option (List (List ND)) := match os with
  | none => none
  | some Os => if p.length ≤ 40 ∧ Os.flatten.length + 1 + (3 + v.flatten.length) ≤ 100 then some (Os ++ [ordP op p v]) else none
theorem ls_fr {os : Option (List (List ND))} {S1 : GS} {M : Nat → Prop} (h : LsR os S) (hf : Fr M S S1) (hM : ∀ k, 320 ≤ k → k < 328 → ¬ M k) : LsR os S1 := by
  cases os with
  | none => obtain ⟨W, h1, h2⟩ := h; exact ⟨W, h1, to_fr h2 hf hM⟩
  | some Os => exact ⟨to_fr h.1 hf hM, h.2⟩
theorem gT320 : gT 320 := by decide
theorem gSh446 : gSh 446 := by decide
theorem or_one {op : Nat} {v : Int} {c2 : Nat} {p : List Int} {os : Option (List (List ND))} (hop : 21 ≤ op ∧ op ≤ 30) (hc2 : gT c2) (hn : c2 < 320) (hd : 8 ≤ d) (hu : TO c2 (U, false) S) (hU : WF U) (hin : v = -1 ∨ (0 ≤ v ∧ v < (U.length : Int))) (hp : SV S 446 p) (hp2 : ∀ x ∈ p, x < 256) (hb : LsR os S) (hG : Good S) : Ev (fun n => f_X5_add n d 0 S [((320 : Nat) : Int), ((op : Nat) : Int), ((446 : Nat) : Int), ((c2 : Nat) : Int), v]) (fun _ S1 => LsR (addS os op p (vL U v)) S1 ∧ Fr (trM 320) S S1 ∧ Good S1) := by
  have hz : PZ U := pz_l (nr_pzl hu.1.2.2.2)
  have lU : U.length ≤ 100 := tv_l hu.1
  have hin' : v = -1 ∨ (0 ≤ v ∧ v < (U.length : Int) ∧ v + szI U v ≤ U.length) := by
    rcases hin with z | z
    · exact Or.inl z
    · right
      have w := hU.1 v.toNat (by omega)
      have : szI U v = (nz U v.toNat : Int) := by unfold szI; rw [if_pos z]
      omega
  have run : ∀ W : TW, TO 320 W S → Ev (fun n => f_X5_add n d 0 S [((320 : Nat) : Int), ((op : Nat) : Int), ((446 : Nat) : Int), ((c2 : Nat) : Int), v]) (fun _ S1 => TO 320 (ordW W op p U false v) S1 ∧ Fr (trM 320) S S1 ∧ Good S1) := by
    intro W hW
    refine ev_mono (or_add (d := d) (op := op) (v := v) gT320 hc2 (by omega) gSh446 (by omega) hd hu hin' hp hp2 (ty_to hW hG)) (fun _ S1 q => ⟨to_ty q, q.2.2.1, q.2.2.2⟩)
  cases os with
  | none =>
    obtain ⟨W, h1, h2⟩ := hb
    refine ev_mono (run W h2) (fun _ S1 q => ⟨⟨_, ?_, q.1⟩, q.2⟩)
    by_cases c : (ordW W op p U false v).2 = false
    · have := (ordW_no hop c).1
      rw [h1] at this
      cases this
    · simpa using c
  | some Os =>
    refine ev_mono (run _ hb.1) (fun _ S1 q => ⟨?_, q.2⟩)
    show LsR (if p.length ≤ 40 ∧ Os.flatten.length + 1 + (3 + (vL U v).flatten.length) ≤ 100 then some (Os ++ [ordP op p (vL U v)]) else none) S1
    have lg : (gpN (ndK 4) Os 0).length = Os.flatten.length + 1 := gp_len
    have vlen : ∀ w, 0 ≤ v ∧ v < (U.length : Int) → w = nz U v.toNat → (vL U v).flatten.length = w := by
      intro w hv hw
      unfold vL
      rw [if_neg (by omega)]
      simp only [List.flatten_cons, List.flatten_nil, List.append_nil]
      rw [sg_len hU (by omega), hw]
    have v0 : v = -1 → (vL U v).flatten.length = 0 := fun e => by unfold vL; rw [if_pos e]; rfl
    by_cases c : p.length ≤ 40 ∧ Os.flatten.length + 1 + (3 + (vL U v).flatten.length) ≤ 100
    · rw [if_pos c]
      have hv : (v = -1 ∧ (gpN (ndK 4) Os 0).length + 3 ≤ 100) ∨ (0 ≤ v ∧ v < (U.length : Int) ∧ PZ U ∧ WF U ∧ (gpN (ndK 4) Os 0).length + 3 + nz U v.toNat ≤ 100) := by
        rcases hin with y | y
        · have := v0 y
          exact Or.inl ⟨y, by omega⟩
        · have := vlen _ y rfl
          exact Or.inr ⟨y.1, y.2, hz, hU, by omega⟩
      have ok := ordW_ok hop c.1 hv
      have q1 := q.1
      rw [ok] at q1
      have eg : gpN (ndK 4) Os 0 ++ ordP op p (if v = -1 then [] else [sg U v.toNat]) = gpN (ndK 4) (Os ++ [ordP op p (vL U v)]) 0 := by
        unfold gpN vL
        simp
      rw [eg] at q1
      refine ⟨q1, snoc_all (p := fun t => TR t ∧ PZL t) hb.2 (ordP_tr (fun t ht => ?_))⟩
      unfold vL at ht
      split at ht
      · cases ht
      · rename_i nv
        simp only [List.mem_cons, List.not_mem_nil, or_false] at ht
        rw [ht]
        rcases hin with y | y
        · exact absurd y nv
        · exact tr_sg hU (nr_pzl hu.1.2.2.2) (by omega)
    · rw [if_neg c]
      refine ⟨_, ?_, q.1⟩
      by_cases z : (ordW (gpN (ndK 4) Os 0, false) op p U false v).2 = false
      · have no := ordW_no hop z
        refine absurd ⟨no.2.1, ?_⟩ c
        have n3 : (v = -1 ∧ (gpN (ndK 4) Os 0).length + 3 ≤ 100) ∨ (v ≠ -1 ∧ false = false ∧ 1 ≤ szI U v ∧ ((gpN (ndK 4) Os 0).length : Int) + 3 + szI U v ≤ 100) := no.2.2
        rcases n3 with y | y
        · have := v0 y.1
          omega
        · rcases hin with w | w
          · exact absurd w y.1
          · have := vlen _ w rfl
            have e : szI U v = (nz U v.toNat : Int) := by unfold szI; rw [if_pos w]
            omega
      · simpa using z
end MRK
