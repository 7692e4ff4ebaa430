/-! DOCUMENTS are within bounds: isWithinBounds of the class -/
section BND
variable {S : GS} {c d : Nat} {V : List ND}
theorem nb_facts {i : Nat} (hi : i < V.length) (h2 : nk V i = 2) (hn : NbOK (nt V i) (np V i)) : (sgI V (i : Int) = 0 ∧ pwI V (i : Int) = 0 ∧ fgI V (i : Int) = 1) ∨ (sgI V (i : Int) ≠ 0 ∧ dgI V (i : Int) (fgI V (i : Int) - 1) ≠ 48 ∧ (1 ≤ fgI V (i : Int) ∧ fgI V (i : Int) ≤ 24) ∧ -99 ≤ pwI V (i : Int) ∧ pwI V (i : Int) ≤ 99) := by
  have et : tI V (i : Int) = nt V i := by rw [tI_p (by omega), Int.toNat_natCast]
  have nm : nmI V (i : Int) := ⟨by omega, by rw [Int.toNat_natCast]; exact h2⟩
  have ep : pwI V (i : Int) = np V i := by unfold pwI; rw [if_pos nm, Int.toNat_natCast]
  unfold sgI fgI dgI
  rw [et, ep, if_pos nm]
  generalize nt V i = t at hn
  generalize np V i = p at hn
  rcases hn with ⟨rfl, rfl⟩ | ⟨g, F, rfl, f1, f2, f3, f4, f5, f6⟩
  · left
    exact ⟨by decide, rfl, by decide⟩
  · right
    have d0 : F.getD 0 0 ∈ F := by
      rw [List.getD_eq_getElem?_getD, List.getElem?_eq_getElem (by omega)]
      exact List.getElem_mem _
    have r0 := f1 _ d0
    by_cases c : g = 0
    · rw [if_pos c, List.nil_append]
      have a0 : atD F 0 = F.getD 0 0 := by
        unfold atD
        rw [if_pos (by omega)]
        rfl
      have n45 : ¬ F.getD 0 0 = 45 := by omega
      rw [a0]
      simp only [if_neg n45, if_neg f4, Int.sub_zero, Int.add_zero]
      refine ⟨by decide, ?_, by omega, f6⟩
      rw [if_pos (by omega)]
      unfold atD
      rw [if_pos (by omega), show ((F.length : Int) - 1).toNat = F.length - 1 by omega]
      exact f5
    · rw [if_neg c]
      have a0 : atD ([45] ++ F) 0 = 45 := by
        unfold atD
        rw [if_pos (by simp)]
        rfl
      have ll : ((([45] ++ F).length : Nat) : Int) = (F.length : Int) + 1 := by simp
      rw [a0, if_pos rfl, if_pos rfl, ll]
      refine ⟨by decide, ?_, by omega, f6⟩
      rw [if_pos (by omega)]
      unfold atD
      rw [if_pos (by omega), show ((F.length : Int) + 1 - 1 - 1 + 1).toNat = (F.length - 1) + 1 by omega]
      exact f5
theorem t_soundSigns {i : Nat} (hc : gT c) (hd : 6 ≤ d) (hv : TV S c V) (hi : i < V.length) (hn : nk V i = 2 → NbOK (nt V i) (np V i)) : Rd (fun n => f_X10_hasSoundSigns n d 0 S [((c : Nat) : Int), (i : Int)]) 1 S := by
  have lV := tv_l hv
  have nr := tv_r hv hi
  have nl : (nt V i).length ≤ 40 := nr.2.2.2.2.2.2.1
  have kn : kdI V (i : Int) = nk V i := kd_nat hi
  have is := fun (k : Int) (hk : inr k) (hk2 : k ≠ -1) => rd_as (t_is (S := S) (V := V) (d := d - 1) (i := (i : Int)) (k := k) hc hv (by constructor <;> omega) hk) (is_kd hk2)
  have e18 : Rd (fun n => f_X10_hasSoundSigns n d 18 S [((c : Nat) : Int), (i : Int), ((nt V i).length : Int)]) 1 S := by
    refine ev_up (fun n => e_X10_hasSoundSigns_18) ?_
    unfold b_X10_hasSoundSigns_18
    refine ev_gg (by omega) ?_
    refine ev_gg hc ?_
    refine ev_gcr (is 3 (by decide) (by decide)) ?_
    rw [kn]
    by_cases c3 : nk V i = 3
    · rw [if_pos c3]
      refine ev_gg (by decide) ?_
      refine ev_ite (fun z => absurd z (by decide)) (fun _ => ?_)
      refine ev_gg (by constructor <;> omega) ?_
      refine ev_ite (fun z => by omega) (fun _ => ?_)
      refine ev_ite (fun z => by omega) (fun _ => ?_)
      exact ev_ret ⟨rfl, rfl⟩
    rw [if_neg c3]
    refine ev_gg (by decide) ?_
    refine ev_ite (fun _ => ?_) (fun z => absurd rfl z)
    refine ev_gcr (is 2 (by decide) (by decide)) ?_
    rw [kn]
    by_cases c2' : nk V i ≠ 2
    · rw [if_neg c2']
      refine ev_gg (by decide) ?_
      refine ev_ite (fun z => absurd rfl z) (fun _ => ?_)
      exact ev_ret ⟨rfl, rfl⟩
    have c2 : nk V i = 2 := by omega
    rw [if_pos c2]
    refine ev_gg (by decide) ?_
    refine ev_ite (fun _ => ?_) (fun z => absurd (by decide) z)
    have sr := sgI_r V (i : Int)
    refine ev_gcr (t_signOf (d := d - 1) (i := (i : Int)) hc hv (by omega) (by constructor <;> omega)) ?_
    refine ev_gg (by rcases sr with z | z | z <;> rw [z] <;> decide) ?_
    have fg := t_figures (d := d - 1) (i := (i : Int)) hc hv (by omega) (by constructor <;> omega)
    have pw := t_power (d := d - 1) (i := (i : Int)) hc hv (by omega) (by constructor <;> omega)
    have e120 : fgI V (i : Int) ≤ 24 → 0 ≤ fgI V (i : Int) → (-99 ≤ pwI V (i : Int) ∧ pwI V (i : Int) ≤ 99) → Rd (fun n => f_X10_hasSoundSigns n d 120 S [((c : Nat) : Int), (i : Int), 1]) 1 S := by
      intro h1 h0 h2
      refine ev_up (fun n => e_X10_hasSoundSigns_120) ?_
      unfold b_X10_hasSoundSigns_120
      refine ev_gg (by decide) ?_
      refine ev_ite (fun z => absurd z (by decide)) (fun _ => ?_)
      refine ev_gg (by omega) ?_
      refine ev_gg hc ?_
      refine ev_gcr fg ?_
      refine ev_gg (by constructor <;> omega) ?_
      refine ev_ite (fun z => by omega) (fun _ => ?_)
      refine ev_gcr pw ?_
      refine ev_gg (by constructor <;> omega) ?_
      refine ev_gv ?_
      refine ev_gg (by constructor <;> omega) ?_
      refine ev_ite (fun z => by omega) (fun _ => ?_)
      exact ev_ret ⟨rfl, rfl⟩
    rcases nb_facts hi c2 (hn c2) with ⟨f1, f2, f3⟩ | ⟨f1, f2, f3, f4⟩
    · refine ev_ite (fun z => absurd f1 z) (fun _ => ?_)
      refine ev_up (fun n => e_X10_hasSoundSigns_68) ?_
      unfold b_X10_hasSoundSigns_68
      refine ev_gg (by decide) ?_
      refine ev_ite (fun z => absurd z (by decide)) (fun _ => ?_)
      refine ev_gg (by omega) ?_
      refine ev_gg hc ?_
      refine ev_gcr pw ?_
      refine ev_gg (by rw [f2]; decide) ?_
      refine ev_ite (fun z => absurd f2 z) (fun _ => ?_)
      refine ev_gcr fg ?_
      refine ev_gg (by rw [f3]; decide) ?_
      refine ev_ite (fun z => absurd f3 z) (fun _ => ?_)
      exact e120 (by omega) (by omega) (by omega)
    · refine ev_ite (fun _ => ?_) (fun z => absurd (fun w => f1 w) z)
      refine ev_up (fun n => e_X10_hasSoundSigns_68) ?_
      unfold b_X10_hasSoundSigns_68
      refine ev_gg (by decide) ?_
      refine ev_ite (fun _ => ?_) (fun z => absurd rfl z)
      refine ev_gg (by omega) ?_
      refine ev_gg hc ?_
      refine ev_gcr fg ?_
      refine ev_gv ?_
      refine ev_gcr (t_digit (d := d - 1) (i := (i : Int)) (p := fgI V (i : Int) - 1) hc hv (by omega) (by constructor <;> omega) (by omega)) ?_
      have dr := dgI_r hv (i : Int) (fgI V (i : Int) - 1)
      refine ev_gg (by constructor <;> omega) ?_
      refine ev_ite (fun z => absurd z f2) (fun _ => ?_)
      exact e120 (by omega) (by omega) f4
  have ha := t_has (S := S) (V := V) (d := d - 1) (i := (i : Int)) hc hv (by constructor <;> omega)
  rw [if_pos (by omega)] at ha
  refine ev_up (fun n => e_X10_hasSoundSigns_0) ?_
  unfold b_X10_hasSoundSigns_0
  refine ev_gg (by omega) ?_
  refine ev_gg hc ?_
  refine ev_gcr ha ?_
  refine ev_gg (by decide) ?_
  refine ev_ite (fun z => absurd z (by decide)) (fun _ => ?_)
  refine ev_gg (by omega) ?_
  refine ev_gv ?_
  rw [Int.toNat_natCast, (hv.2.2.1 i hi).2.2.2.1]
  exact e18
theorem sk_11 {g : Nat} (hc : gT c) (hd : 6 ≤ d) (hv : TV S c V) (hw : WF V) (hg : g < V.length) (h5 : nk V g = 5) (hu : ((kids V g).map (nq V)).Nodup) : ∀ (m i : Nat) (n0 : Int) (A : List Nat), kids V g = A ++ ks V i (g + nz V g) → g + nz V g - i < m → g < i → 0 ≤ n0 → n0 + ((g + nz V g - i : Nat) : Int) ≤ 99 → Rd (fun n => f_X10_hasSoundKeys n d 11 S [((c : Nat) : Int), (g : Int), 1, cur i (g + nz V g), n0]) 1 S := by
  have hz : PZ V := pz_l (nr_pzl hv.2.2.2)
  have lV := tv_l hv
  have wg := hw.1 g hg
  intro m
  induction m with
  | zero => intros; omega
  | succ m ih =>
    intro i n0 A hA h1 h2 h3 h4
    by_cases he : i < g + nz V g
    · have we := hw.2.1 g i h2 he
      have ze := hz i
      have iV : i < V.length := by omega
      rw [ks_cons hz he] at hA
      rw [show cur i (g + nz V g) = (i : Int) from if_pos he]
      have kl : (nq V i).length ≤ 12 := (tv_r hv iV).2.2.2.2.2.2.2.2.1
      have ek : kI V (i : Int) = nq V i := by rw [kI_p (by omega), Int.toNat_natCast]
      have vl : vLk V (g : Int) (nq V i) = (i : Int) := by
        rw [vLk_c hg h5, hA]
        rw [hA, List.map_append, List.map_cons] at hu
        have nA : nq V i ∉ A.map (nq V) := fun w => (List.nodup_append.mp hu).2.2 _ w _ List.mem_cons_self rfl
        have go : ∀ B : List Nat, nq V i ∉ B.map (nq V) → fdK V (nq V i) (B ++ i :: ks V (i + nz V i) (g + nz V g)) = (i : Int) := by
          intro B
          induction B with
          | nil => intro _; exact if_pos rfl
          | cons b B ihB =>
            intro hB
            rw [List.map_cons] at hB
            show (if nq V b = nq V i then (b : Int) else fdK V (nq V i) (B ++ i :: ks V (i + nz V i) (g + nz V g))) = _
            rw [if_neg (fun e => hB (by rw [← e]; exact List.mem_cons_self))]
            exact ihB (fun w => hB (List.mem_cons_of_mem _ w))
        exact go A nA
      refine ev_up (fun n => e_X10_hasSoundKeys_11) ?_
      unfold b_X10_hasSoundKeys_11
      refine ev_gg (by constructor <;> omega) ?_
      refine ev_ite (fun z => by omega) (fun _ => ?_)
      refine ev_gg (by constructor <;> omega) ?_
      refine ev_ite (fun z => by omega) (fun _ => ?_)
      refine ev_gg (by decide) ?_
      refine ev_ite (fun z => absurd z (by decide)) (fun _ => ?_)
      refine ev_gg (by omega) ?_
      refine ev_gg hc ?_
      refine ev_gcr (t_keyLen (d := d - 1) (i := (i : Int)) hc hv (by constructor <;> omega)) ?_
      rw [ek]
      refine ev_gg (by constructor <;> omega) ?_
      refine ev_ite (fun z => by omega) (fun _ => ?_)
      refine ev_gcr (rd_as (t_valueLike (d := d - 1) (g := (g : Int)) (c2 := c) (U := V) (j := i) hc hv hw (by constructor <;> omega) (by omega) hc hv iV) vl) ?_
      refine ev_gg (by constructor <;> omega) ?_
      refine ev_ite (fun z => absurd rfl z) (fun _ => ?_)
      refine ev_up (fun n => e_X10_hasSoundKeys_53) ?_
      unfold b_X10_hasSoundKeys_53
      refine ev_gg (by omega) ?_
      refine ev_gg hc ?_
      refine ev_gcr (t_next (d := d - 1) hc hv hw h2 he hg) ?_
      refine ev_gv ?_
      exact ih (i + nz V i) (n0 + 1) (A ++ [i]) (by rw [List.append_assoc]; exact hA) (by omega) (by omega) (by omega) (by omega)
    · rw [show cur i (g + nz V g) = -1 from if_neg he]
      refine ev_up (fun n => e_X10_hasSoundKeys_11) ?_
      unfold b_X10_hasSoundKeys_11
      refine ev_gg (by decide) ?_
      refine ev_ite (fun _ => ?_) (fun z => absurd rfl z)
      refine ev_gg (by decide) ?_
      exact ev_ret ⟨rfl, rfl⟩
theorem t_soundKeys {g : Nat} (hc : gT c) (hd : 6 ≤ d) (hv : TV S c V) (hw : WF V) (hu : KUV V) (hg : g < V.length) : Rd (fun n => f_X10_hasSoundKeys n d 0 S [((c : Nat) : Int), (g : Int)]) 1 S := by
  have hz : PZ V := pz_l (nr_pzl hv.2.2.2)
  have lV := tv_l hv
  have wg := hw.1 g hg
  have zg := hz g
  have fm := t_firstOfMap (d := d - 1) hc hv hw hg
  refine ev_up (fun n => e_X10_hasSoundKeys_0) ?_
  unfold b_X10_hasSoundKeys_0
  refine ev_gg (by omega) ?_
  refine ev_gg hc ?_
  refine ev_gcr fm ?_
  by_cases c5 : nk V g = 5
  · rw [if_pos c5]
    exact sk_11 (d := d) hc hd hv hw hg c5 (hu g hg c5) _ (g + 1) 0 [] rfl (Nat.lt_succ_self _) (by omega) (by decide) (by omega)
  · rw [if_neg c5]
    refine ev_up (fun n => e_X10_hasSoundKeys_11) ?_
    unfold b_X10_hasSoundKeys_11
    refine ev_gg (by decide) ?_
    refine ev_ite (fun _ => ?_) (fun z => absurd rfl z)
    refine ev_gg (by decide) ?_
    exact ev_ret ⟨rfl, rfl⟩
theorem t_isWithinBounds (hc : gT c) (hd : 8 ≤ d) (hv : TV S c V) (hw : WF V) (hu : KUV V) (hn : ∀ i, i < V.length → nk V i = 2 → NbOK (nt V i) (np V i)) : Rd (fun n => f_X10_isWithinBounds n d 0 S [((c : Nat) : Int)]) 1 S := by
  have hz : PZ V := pz_l (nr_pzl hv.2.2.2)
  have lV := tv_l hv
  have hcn := tv_n hv
  have loop : ∀ m i : Nat, V.length - i < m → i ≤ V.length → Rd (fun n => f_X10_isWithinBounds n d 4 S [((c : Nat) : Int), 1, (i : Int)]) 1 S := by
    intro m
    induction m with
    | zero => intros; omega
    | succ m ih =>
      intro i h1 h2
      refine ev_up (fun n => e_X10_isWithinBounds_4) ?_
      unfold b_X10_isWithinBounds_4
      refine ev_gg hc ?_
      refine ev_gv ?_
      rw [hcn]
      refine ev_gg (by constructor <;> omega) ?_
      refine ev_gg (by constructor <;> omega) ?_
      by_cases ci : i < V.length
      · have wi := hw.1 i ci
        have zi := hz i
        refine ev_ite (fun z => by omega) (fun _ => ?_)
        refine ev_gg (by decide) ?_
        refine ev_ite (fun z => absurd z (by decide)) (fun _ => ?_)
        refine ev_gg (by omega) ?_
        refine ev_gcr (rd_as (t_size (d := d - 1) (i := (i : Int)) hc hv (by constructor <;> omega)) (szI_c ci)) ?_
        refine ev_gg (by constructor <;> omega) ?_
        refine ev_ite (fun z => by omega) (fun _ => ?_)
        have ea : afI V (i : Int) = (i : Int) + (nz V i : Int) := by
          unfold afI
          rw [if_pos (by omega), Int.toNat_natCast]
        refine ev_gcr (rd_as (t_after (d := d - 1) (i := (i : Int)) hc hv (by constructor <;> omega)) ea) ?_
        refine ev_gv ?_
        rw [hcn]
        refine ev_gg (by constructor <;> omega) ?_
        refine ev_gg (by constructor <;> omega) ?_
        refine ev_ite (fun z => by omega) (fun _ => ?_)
        refine ev_gcr (t_soundSigns (d := d - 1) hc (by omega) hv ci (hn i ci)) ?_
        refine ev_gg (by decide) ?_
        refine ev_ite (fun z => absurd z (by decide)) (fun _ => ?_)
        refine ev_gcr (t_soundKeys (d := d - 1) hc (by omega) hv hw hu ci) ?_
        refine ev_gg (by decide) ?_
        refine ev_ite (fun z => absurd z (by decide)) (fun _ => ?_)
        refine ev_gv ?_
        exact ih (i + 1) (by omega) (by omega)
      · refine ev_ite (fun _ => ?_) (fun z => by omega)
        refine ev_gg (by decide) ?_
        exact ev_ret ⟨rfl, rfl⟩
  refine ev_up (fun n => e_X10_isWithinBounds_0) ?_
  unfold b_X10_isWithinBounds_0
  exact loop _ 0 (Nat.lt_succ_self _) (Nat.zero_le _)
end BND
