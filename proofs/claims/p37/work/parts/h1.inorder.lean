/-! BY KEYS: appendInOrder of the class -/
/-- KEYS of each MAP in order -/
def soF : Nat → List ND → List ND
  | 0, T => gpN (T.getD 0 nd0) [] 0
  | f + 1, T => gpN (T.getD 0 nd0) ((koS 1 T).map (soF f)) ((koS 1 T).map (soF f)).length
theorem soF_s {f : Nat} {T : List ND} : soF (f + 1) T = gpN (T.getD 0 nd0) ((koS 1 T).map (soF f)) ((koS 1 T).map (soF f)).length := rfl
section ORD
variable {S S0 : GS} {c c2 d : Nat} {V P : List ND}
/-- one NODE comes -/
theorem ty_copy1 {i : Nat} {k : Nat → GS → Option (Int × GS)} {Q : Int → GS → Prop} (hc : gT c) (hc2 : gT c2) (hne : c2 ≠ c) (hv : TV S c2 V) (hi : i < V.length) (hl : P.length < 100) (h : TY c S0 (P, false) S) (nx : ∀ S1, TY c S0 (P ++ [V.getD i nd0], false) S1 → Ev (fun n => k n S1) Q) : Ev (fun n => gc (f_X10_copyNodes n (d - 1) 0 S [((c : Nat) : Int), (P.length : Int), ((c2 : Nat) : Int), (i : Int), 1]) fun _ S_23 => gv (S_23.1 c 7) fun x25 => gv (x25 + 1) fun x27 => gv (gI S_23 c 7 x27) fun S_29 => k n S_29) Q := by
  have h1 := tv_n h.1
  have h3 := tv_l hv
  have kc := t_copyNodes (d := d - 1) (S := S) (a := c) (b := c2) (dp := P.length) (sp := i) (n := 1) hc hc2 h.2.2.2 (by omega) (by omega) (by omega)
  have hx : (cpS S c c2 (P.length : Int) (i : Int) ((1 : Nat) : Int)).1 c 7 = (P.length : Int) := by
    rw [cpS_x (fun m a b => by omega)]; exact h1
  refine ev_gc kc (fun _ S1 q => ?_)
  subst q
  rw [hx]
  refine ev_gv ?_
  refine ev_gv ?_
  refine ev_gv ?_
  refine nx _ ⟨⟨?_, ?_, ?_, ?_⟩, ?_, ?_, ?_⟩
  · rw [gI_a, List.length_append]; rfl
  · rw [List.length_append, List.length_singleton]; omega
  · intro j hj
    rw [List.length_append, List.length_singleton] at hj
    have q := cpS_at (S := S) (dp := P.length) (sp := i) (n := 1) hc hc2 j
    have same : SameN (cpS S c c2 (P.length : Int) (i : Int) ((1 : Nat) : Int)) (gI (cpS S c c2 (P.length : Int) (i : Int) ((1 : Nat) : Int)) c 7 ((P.length : Int) + 1)) c j := by
      refine ⟨?_, ?_, ?_, ?_, fun t ht => ?_, ?_, fun t ht => ?_⟩ <;> rw [gI_c (by omega)]
    rw [getD_append]
    by_cases hil : j < P.length
    · rw [if_pos hil]
      simp only [show ¬ (P.length ≤ j ∧ j < P.length + 1) by omega, if_false] at q
      have r := h.1.2.2.2 _ (nd_mem hil)
      exact nv_same (nv_copy (h.1.2.2.1 j hil) r q) r same
    · rw [if_neg hil]
      have ej : j = P.length := by omega
      subst ej
      simp only [show P.length ≤ P.length ∧ P.length < P.length + 1 by omega, and_self, if_true] at q
      have r := hv.2.2.2 _ (nd_mem hi)
      rw [Nat.sub_self] at q ⊢
      exact nv_same (nv_copy (hv.2.2.1 _ hi) r q) r same
  · intro x hx
    rcases List.mem_append.mp hx with q | q
    · exact h.1.2.2.2 x q
    · simp only [List.mem_cons, List.not_mem_nil, or_false] at q
      rw [q]
      exact hv.2.2.2 _ (nd_mem hi)
  · exact h.2.1
  · exact fr_tr h.2.2.1 (fr_tr cpS_fr (fr_gI trMc))
  · exact good_gI (cpS_good hc hc2 h.2.2.2) (by constructor <;> omega) (fun q => absurd q (not_isC (k := 0) hc (by decide)))
theorem clo_y {y : ND} {L : List ND} : clo (P ++ y :: L, false) (P.length : Int) = (P ++ wZ y (1 + L.length) :: L, false) := by
  unfold clo
  rw [if_pos (by show 0 ≤ (P.length : Int) ∧ (P.length : Int) < ((P ++ y :: L).length : Int); rw [List.length_append, List.length_cons]; omega), Int.toNat_natCast]
  have e : (P ++ y :: L).getD P.length nd0 = y := by
    rw [getD_append, if_neg (Nat.lt_irrefl _), Nat.sub_self]
    rfl
  have l : (P ++ y :: L).length - P.length = 1 + L.length := by rw [List.length_append, List.length_cons]; omega
  show ((P ++ y :: L).set P.length (wZ ((P ++ y :: L).getD P.length nd0) ((P ++ y :: L).length - P.length)), false) = _
  rw [e, l, List.set_append_right _ _ (Nat.le_refl _), Nat.sub_self]
  rfl
theorem t_nextByKeyN {g : Nat} (hc : gT c) (hv : TV S c V) (hw : WF V) (hl : g < V.length) (hd : 2 ≤ d) (hk : nk V g ≠ 5) : Rd (fun n => f_X10_nextByKey n d 0 S [((c : Nat) : Int), (g : Int), -1]) (-1) S := by
  refine ev_up (fun n => e_X10_nextByKey_0) ?_
  unfold b_X10_nextByKey_0
  refine ev_gg (by omega) ?_
  refine ev_gg hc ?_
  refine ev_gcr (rd_as (t_firstOfMap (d := d - 1) hc hv hw hl) (if_neg hk)) ?_
  refine ev_up (fun n => e_X10_nextByKey_12) ?_
  unfold b_X10_nextByKey_12
  refine ev_gg (by decide) ?_
  refine ev_ite (fun _ => ?_) (fun z => absurd rfl z)
  exact ev_ret ⟨rfl, rfl⟩
/-- the VALUES that are left, in an order -/
def CuO (c2 : Nat) (V : List ND) (i : Nat) (y : Int) : Int → Int → List Nat → Prop
  | n, q, [] => inr q ∧ (q = -1 ∨ 100 ≤ n)
  | n, q, k :: L => q = (k : Int) ∧ k < V.length ∧ n < 100 ∧ ∃ q', (∀ (d : Nat) (S : GS), 4 ≤ d → TV S c2 V → (y = 0 → Rd (fun n => f_X10_nextByKey n d 0 S [((c2 : Nat) : Int), (i : Int), (k : Int)]) q' S) ∧ (y ≠ 0 → Rd (fun n => f_X10_next n d 0 S [((c2 : Nat) : Int), (i : Int), (k : Int)]) q' S)) ∧ CuO c2 V i y (n + 1) q' L
theorem co_row {i : Nat} (hc2 : gT c2) (hw : WF V) (hz : PZ V) (hi : i < V.length) (lV : V.length ≤ 100) : ∀ (m e : Nat) (n : Int), i + nz V i - e < m → i < e → 0 ≤ n → n + ((i + nz V i - e : Nat) : Int) ≤ 99 → CuO c2 V i 1 n (cur e (i + nz V i)) (ks V e (i + nz V i)) := by
  intro m
  induction m with
  | zero => intros; omega
  | succ m ih =>
    intro e n h1 h2 h3 h4
    have wi := hw.1 i hi
    by_cases he : e < i + nz V i
    · have we := hw.2.1 i e h2 he
      have ze := hz e
      rw [ks_cons hz he, show cur e (i + nz V i) = (e : Int) from if_pos he]
      exact ⟨rfl, by omega, by omega, cur (e + nz V e) (i + nz V i), fun d S hd hv => ⟨fun z => by omega, fun _ => t_next hc2 hv hw h2 he hi⟩, ih (e + nz V e) (n + 1) (by omega) (by omega) (by omega) (by omega)⟩
    · rw [ks_nil (by omega), show cur e (i + nz V i) = -1 from if_neg he]
      exact ⟨by decide, Or.inl rfl⟩
theorem co_map {i : Nat} (hc2 : gT c2) (hw : WF V) (hz : PZL V) (hi : i < V.length) (lV : V.length ≤ 100) (h5 : nk V i = 5) : ∀ (F : Nat) (last n : Int), n + (F : Int) = 100 → 0 ≤ n → (last = -1 ∨ (0 ≤ last ∧ last < (V.length : Int))) → CuO c2 V i 0 n (nbK V last (-1) (kids V i)) (obK F V last (kids V i)) := by
  have hmem : ∀ k ∈ kids V i, k < V.length := fun k hk => kids_in hw (pz_l hz) hi hk
  have nb : ∀ last : Int, (last = -1 ∨ (0 ≤ last ∧ last < (V.length : Int))) → nbK V last (-1) (kids V i) = -1 ∨ ∃ k : Nat, k < V.length ∧ nbK V last (-1) (kids V i) = (k : Int) := by
    intro last hlast
    have hl2 : (last = -1 ∧ (if last = -1 then none else some (nq V last.toNat)) = none) ∨ ∃ k : Nat, k < V.length ∧ last = (k : Int) ∧ (if last = -1 then none else some (nq V last.toNat)) = some (nq V k) := by
      rcases hlast with q | q
      · exact Or.inl ⟨q, if_pos q⟩
      · refine Or.inr ⟨last.toNat, by omega, by omega, if_neg (by omega)⟩
    rcases nbK_S hz hl2 (kids V i) (-1) none hmem (Or.inl ⟨rfl, rfl⟩) with ⟨q, _⟩ | ⟨k, hk, q, _⟩
    · exact Or.inl q
    · exact Or.inr ⟨k, hk, q⟩
  intro F
  induction F with
  | zero =>
    intro last n hn h0 hlast
    exact ⟨by rcases nb last hlast with q | ⟨k, hk, q⟩ <;> rw [q] <;> constructor <;> omega, Or.inr (by omega)⟩
  | succ F ih =>
    intro last n hn h0 hlast
    unfold obK
    rcases nb last hlast with q | ⟨k, hk, q⟩
    · rw [if_pos q, q]
      exact ⟨by decide, Or.inl rfl⟩
    · rw [if_neg (by omega), q, Int.toNat_natCast]
      exact ⟨rfl, hk, by omega, nbK V (k : Int) (-1) (kids V i), fun d S hd hv => ⟨fun _ => t_nextByKey hc2 hv hw hi (by omega) h5 (Or.inr (by omega)), fun z => absurd rfl z⟩, ih (k : Int) (n + 1) (by omega) (by omega) (Or.inr (by omega))⟩
end ORD
