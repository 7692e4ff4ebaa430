/-! PATHS: the Finder, whole -/
theorem plF_r (x : Int) : ∀ (l : List Int) (i : Nat), plF x l i = -1 ∨ ((i : Int) ≤ plF x l i ∧ plF x l i < (i : Int) + l.length)
  | [], i => Or.inl rfl
  | y :: l, i => by
    unfold plF
    split
    · right
      simp only [List.length_cons]
      omega
    · have := plF_r x l (i + 1)
      simp only [List.length_cons]
      omega
section FM
variable {S S0 : GS} {c d : Nat} {V : List ND} {w : List Int}
/-- what the Finder rests on while it works -/
def FnS (c : Nat) (V : List ND) (w : List Int) (S0 : GS) (L : List Nat) (S : GS) : Prop := TV S c V ∧ SV S 440 w ∧ FsL L S ∧ FdL V.length L ∧ Fr fnA S0 S ∧ Good S
theorem fn_step {S1 : GS} {L L1 : List Nat} {M : Nat → Prop} (hc : gT c) (h : FnS c V w S0 L S) (hf : Fr M S S1) (hM : ∀ k, M k → fnA k ∧ k ≠ 440 ∧ k ≠ 441) (hL : FsL L1 S1) (hd : FdL V.length L1) (hG : Good S1) : FnS c V w S0 L1 S1 := by
  obtain ⟨h1, h2, h3, h4, h5, h6⟩ := h
  refine ⟨tv_fr h1 hf (fun k a b => fun z => by have := (hM k z).1; unfold fnA at this; omega), sv_fr h2 hf (fun z => (hM _ z).2.1 rfl) (fun z => (hM _ z).2.2 rfl), hL, hd, fr_tr h5 (fr_mono hf (fun k z => (hM k z).1)), hG⟩
theorem fn_meets {x : Int} {L : List Nat} (hc : gT c) (h : FnS c V w S0 L S) (hx : x = -1 ∨ (0 ≤ x ∧ x < (V.length : Int))) : Ev (fun m => f_X2_meet m d 0 S [x]) (fun _ S1 => FnS c V w S0 (mtI L x) S1 ∧ Fr fnM S S1) := by
  have l := tv_l h.1
  refine ev_mono (fn_meet h.2.2.1 h.2.2.2.2.2 hx l h.2.2.2.1) (fun _ S1 q => ⟨?_, q.2.1⟩)
  refine fn_step hc h q.2.1 (fun k z => ?_) q.1 ?_ q.2.2
  · unfold fnM at z; unfold fnA; omega
  · unfold mtI
    split
    · exact fdL_A h.2.2.2.1 (by omega)
    · exact h.2.2.2.1
theorem fn_placeIn {g : Nat} (hc : gT c) (hd : 4 ≤ d) (hv : TV S c V) (hw : WF V) (h2 : SV S 440 w) (hwl : ∀ x ∈ w, x < 256) (hg : g < V.length) : Rd (fun n => f_X2_placeIn n d 0 S [((c : Nat) : Int), (g : Int)]) (plW V g w) S := by
  have hs : gSh 440 := by decide
  have e0 : Rd (fun n => f_X9_at n (d - 1) 0 S [((440 : Nat) : Int), 0]) (hdI w) S := rd_as (s9_at (d := d - 1) (i := (0 : Int)) hs h2 (by decide)) (by have := atD_drop (l := w) (i := 0); simpa using this)
  have rb : -1 ≤ hdI w ∧ hdI w < 65536 := by
    have := sv_wb (i := 0) h2
    rw [atD_drop, List.drop_zero] at this
    exact this
  have p0 := x7_placeIn (d := d - 1) (f := 0) hs (by omega) h2 hwl (by decide)
  have p1 := x7_placeIn (d := d - 1) (f := 1) hs (by omega) h2 hwl (by decide)
  have pr := plN_r (w.drop 1)
  rw [List.drop_zero] at p0
  unfold plW
  by_cases c1 : hdI w = 45
  · rw [if_pos c1]
    by_cases c2 : plN (w.drop 1) ≤ 0
    · rw [if_pos c2]
      refine ev_up (fun n => e_X2_placeIn_0) ?_
      unfold b_X2_placeIn_0
      repeat' (first
        | with_reducible refine ev_gv ?_
        | with_reducible refine ev_gg ?_ ?_
        | with_reducible refine ev_ite (fun _ => ?_) (fun _ => ?_)
        | refine ev_gcr (e0) ?_
        | refine ev_gcr (p1) ?_
        | omega
        | assumption)
      exact ev_ret ⟨rfl, rfl⟩
    · rw [if_neg c2]
      refine ev_up (fun n => e_X2_placeIn_0) ?_
      unfold b_X2_placeIn_0
      repeat' (first
        | with_reducible refine ev_gv ?_
        | with_reducible refine ev_gg ?_ ?_
        | with_reducible refine ev_ite (fun _ => ?_) (fun _ => ?_)
        | refine ev_gcr (e0) ?_
        | refine ev_gcr (p1) ?_
        | refine ev_gcr (t_values hc hv hw hg (by omega)) ?_
        | omega
        | assumption)
      exact ev_ret ⟨rfl, rfl⟩
  · rw [if_neg c1]
    refine ev_up (fun n => e_X2_placeIn_0) ?_
    unfold b_X2_placeIn_0
    repeat' (first
      | with_reducible refine ev_gv ?_
      | with_reducible refine ev_gg ?_ ?_
      | with_reducible refine ev_ite (fun _ => ?_) (fun _ => ?_)
      | refine ev_gcr (e0) ?_
      | refine ev_gcr (p0) ?_
      | omega
      | assumption)
    exact ev_ret ⟨rfl, rfl⟩
theorem fn_all58 {g : Nat} (hc : gT c) (hd : 2 ≤ d) (hw : WF V) (hg : g < V.length) : ∀ (m i : Nat) (n : Int) (L : List Nat) (S : GS), g + nz V g - i < m → g < i → 0 ≤ n → n + ((g + nz V g - i : Nat) : Int) ≤ 99 → FnS c V w S0 L S → Ev (fun q => f_X2_stepFrom q d 58 S [((c : Nat) : Int), (g : Int), cur i (g + nz V g), n]) (fun _ S1 => FnS c V w S0 ((ks V i (g + nz V g)).foldl mtA L) S1) := by
  intro m
  induction m with
  | zero => intros; omega
  | succ m ih =>
    intro i n L S h1 h2 h3 h4 h
    have hz := pz_l (nr_pzl h.1.2.2.2)
    have l := tv_l h.1
    have we := hw.1 g hg
    by_cases hi : i < g + nz V g
    · have wi := hw.2.1 g i h2 hi
      have zi := hz i
      rw [ks_cons hz hi, show cur i (g + nz V g) = (i : Int) from if_pos hi, List.foldl_cons]
      refine ev_up (fun n => e_X2_stepFrom_58) ?_
      unfold b_X2_stepFrom_58
      repeat' (first
        | with_reducible refine ev_gv ?_
        | with_reducible refine ev_gg ?_ ?_
        | with_reducible refine ev_ite (fun _ => ?_) (fun _ => ?_)
        | omega
        | assumption)
      refine ev_gc (fn_meets (d := d - 1) hc h (Or.inr (by omega))) (fun _ S1 q1 => ?_)
      obtain ⟨q1, -⟩ := q1
      rw [mtI_nat] at q1
      refine ev_gg hc ?_
      refine ev_gcr (t_next (d := d - 1) hc q1.1 hw h2 hi hg) ?_
      refine ev_gv ?_
      exact ih (i + nz V i) (n + 1) _ S1 (by omega) (by omega) (by omega) (by omega) q1
    · rw [ks_nil (by omega), show cur i (g + nz V g) = -1 from if_neg hi]
      refine ev_up (fun n => e_X2_stepFrom_58) ?_
      unfold b_X2_stepFrom_58
      repeat' (first
        | with_reducible refine ev_gv ?_
        | with_reducible refine ev_gg ?_ ?_
        | with_reducible refine ev_ite (fun _ => ?_) (fun _ => ?_)
        | omega
        | assumption)
      exact ev_ret h
theorem fn_deep14 {g : Nat} (hc : gT c) (hd : 2 ≤ d) (hw : WF V) (hg : g < V.length) : ∀ (m i : Nat) (L : List Nat) (S : GS), g + nz V g - i = m → i ≤ g + nz V g → FnS c V w S0 L S → Ev (fun q => f_X2_stepFrom q d 14 S [((c : Nat) : Int), (g : Int), (i : Int)]) (fun _ S1 => FnS c V w S0 ((List.range' i m).foldl mtA L) S1) := by
  intro m
  induction m with
  | zero =>
    intro i L S h1 h2 h
    have l := tv_l h.1
    have we := hw.1 g hg
    have ea : afI V (g : Int) = (g : Int) + nz V g := by unfold afI; rw [if_pos (by omega), Int.toNat_natCast]
    refine ev_up (fun n => e_X2_stepFrom_14) ?_
    unfold b_X2_stepFrom_14
    repeat' (first
      | with_reducible refine ev_gv ?_
      | with_reducible refine ev_gg ?_ ?_
      | with_reducible refine ev_ite (fun _ => ?_) (fun _ => ?_)
      | refine ev_gcr (rd_as (t_after (i := (g : Int)) hc h.1 (by constructor <;> omega)) ea) ?_
      | omega
      | assumption)
    exact ev_ret h
  | succ m ih =>
    intro i L S h1 h2 h
    have l := tv_l h.1
    have we := hw.1 g hg
    have ea : afI V (g : Int) = (g : Int) + nz V g := by unfold afI; rw [if_pos (by omega), Int.toNat_natCast]
    rw [List.range'_succ, List.foldl_cons]
    refine ev_up (fun n => e_X2_stepFrom_14) ?_
    unfold b_X2_stepFrom_14
    repeat' (first
      | with_reducible refine ev_gv ?_
      | with_reducible refine ev_gg ?_ ?_
      | with_reducible refine ev_ite (fun _ => ?_) (fun _ => ?_)
      | refine ev_gcr (rd_as (t_after (i := (g : Int)) hc h.1 (by constructor <;> omega)) ea) ?_
      | omega
      | assumption)
    refine ev_gc (fn_meets (d := d - 1) hc h (Or.inr (by omega))) (fun _ S1 q1 => ?_)
    obtain ⟨q1, -⟩ := q1
    rw [mtI_nat] at q1
    refine ev_gv ?_
    exact ih (i + 1) _ S1 (by omega) (by omega) q1
/-- that what is there can be written -/
def WrOK (V : List ND) : Prop := ∀ i, i < V.length → (wrF 12 0 0 (sg V i)).length + 4 ≤ 36000 ∧ dpS 13 (sg V i) ≤ 12
theorem fn_match40 {g : Nat} {e : Int} {nm : List Int} (hc : gT c) (hd : 40 ≤ d) (hw : WF V) (hg : g < V.length) (hwr : WrOK V) (he : e = plF 61 w 0) (hnm : e ≠ -1 → nm = (w.take e.toNat).drop 1) : ∀ (m i : Nat) (n : Int) (L : List Nat) (S : GS), g + nz V g - i < m → g < i → 0 ≤ n → n + ((g + nz V g - i : Nat) : Int) ≤ 99 → SV S 442 nm → FnS c V w S0 L S → Ev (fun q => f_X2_meetMatches q d 40 S [((c : Nat) : Int), (g : Int), e, cur i (g + nz V g), n]) (fun _ S1 => FnS c V w S0 (((ks V i (g + nz V g)).filter (mchS V w)).foldl mtA L) S1) := by
  have hs440 : gSh 440 := by decide
  have hs442 : gSh 442 := by decide
  have hs444 : gSh 444 := by decide
  intro m
  induction m with
  | zero => intros; omega
  | succ m ih =>
    intro i n L S h1 h2 h3 h4 hN h
    have hz := pz_l (nr_pzl h.1.2.2.2)
    have l := tv_l h.1
    have we := hw.1 g hg
    have lw := sv_le h.2.1
    have er := plF_r 61 w 0
    rw [← he] at er
    by_cases hi : i < g + nz V g
    · have wi := hw.2.1 g i h2 hi
      have zi := hz i
      have nx : ∀ (L' : List Nat) (S1 : GS), FnS c V w S0 L' S1 → SV S1 442 nm → Ev (fun q => gc (f_X10_next q (d - 1) 0 S1 [((c : Nat) : Int), (g : Int), (i : Int)]) fun x14 S_15 => gv (n + 1) fun x17 => f_X2_meetMatches q d 40 S_15 [((c : Nat) : Int), (g : Int), e, x14, x17]) (fun _ S1 => FnS c V w S0 (((ks V (i + nz V i) (g + nz V g)).filter (mchS V w)).foldl mtA L') S1) := by
        intro L' S1 q1 hN1
        refine ev_gcr (t_next (d := d - 1) hc q1.1 hw h2 hi hg) ?_
        refine ev_gv ?_
        exact ih (i + nz V i) (n + 1) _ S1 (by omega) (by omega) (by omega) (by omega) hN1 q1
      rw [ks_cons hz hi, show cur i (g + nz V g) = (i : Int) from if_pos hi, List.filter_cons]
      by_cases e1 : e = -1
      · -- no =
        have mf : ∀ k, mchS V w k = false := fun k => by unfold mchS; rw [← he, e1]; rfl
        have fe : ∀ K : List Nat, K.filter (mchS V w) = [] := fun K => List.filter_eq_nil_iff.mpr (fun k _ => by rw [mf k]; decide)
        rw [mf i, fe]
        refine ev_up (fun n => e_X2_meetMatches_40) ?_
        unfold b_X2_meetMatches_40
        repeat' (first
          | with_reducible refine ev_gv ?_
          | with_reducible refine ev_gg ?_ ?_
          | with_reducible refine ev_ite (fun _ => ?_) (fun _ => ?_)
          | omega
          | assumption)
        exact ev_ret h
      · have vo := t_valueOf (d := d - 1) (g := (i : Int)) hc h.1 hw (by constructor <;> omega) (by omega) hs442 hN
        have vr := vLk_r hw hz (i : Int) nm
        have hnm' := hnm e1
        by_cases v1 : vLk V (i : Int) nm = -1
        · have mf : mchS V w i = false := by
            unfold mchS
            rw [← he, ← hnm', v1]
            simp
          rw [mf]
          rw [v1] at vo
          have k := nx L S h hN
          refine ev_up (fun n => e_X2_meetMatches_40) ?_
          unfold b_X2_meetMatches_40
          repeat' (first
            | with_reducible refine ev_gv ?_
            | with_reducible refine ev_gg ?_ ?_
            | with_reducible refine ev_ite (fun _ => ?_) (fun _ => ?_)
            | refine ev_gcr (vo) ?_
            | omega
            | assumption)
          all_goals exact k
        · have vr' : 0 ≤ vLk V (i : Int) nm ∧ vLk V (i : Int) nm < (V.length : Int) := by rcases vr with z | z <;> omega
          obtain ⟨v, hv⟩ : ∃ v : Nat, vLk V (i : Int) nm = (v : Int) := ⟨(vLk V (i : Int) nm).toNat, by omega⟩
          have hvl : v < V.length := by omega
          have ww := hwr v hvl
          rw [hv] at vo
          refine ev_up (fun n => e_X2_meetMatches_40) ?_
          unfold b_X2_meetMatches_40
          repeat' (first
            | with_reducible refine ev_gv ?_
            | with_reducible refine ev_gg ?_ ?_
            | with_reducible refine ev_ite (fun _ => ?_) (fun _ => ?_)
            | refine ev_gcr (vo) ?_
            | omega
            | assumption)
          refine ev_gc (sx_clear hs444 h.2.2.2.2.2) (fun _ S1 s1 => ?_)
          have hv1 := tv_sx hc hs444 h.1 s1
          have wr := s8_value (S0 := S1) (c := c) (s := 444) (V := V) hc hs444 hv1 hw (w := 0) (by decide) 12 13 v (d - 1) 0 S1 [] hvl ww.2 (by decide) (by decide) (by omega) (sx_rf s1.2.2 s1.1) (by simp only [List.length_nil, Nat.zero_add]; exact ww.1)
          rw [List.nil_append] at wr
          refine ev_gc wr (fun _ S2 s2 => ?_)
          have s12 := sx_then s1 s2
          have m2 : Fr (shM 444) S S2 := s12.2.1
          have h2' : FnS c V w S0 L S2 := fn_step hc h m2 (fun k z => by unfold shM at z; unfold fnA; omega) (fs_fr h.2.2.1 m2 (by unfold shM; omega) (by unfold shM; omega) (by unfold shM; omega)) h.2.2.2.1 s12.2.2
          have hN2 : SV S2 442 nm := sv_fr hN m2 (by unfold shM; omega) (by unfold shM; omega)
          refine ev_gv ?_
          have ee : e + 1 = (((e + 1).toNat : Nat) : Int) := by omega
          have en := s9_endsWith (d := d - 1) (f := (e + 1).toNat) hs440 hs444 (by omega) h2'.2.1 s12.1 (by omega)
          rw [← ee] at en
          have mt : mchS V w i = decide (w.drop (e + 1).toNat = wrF 12 0 0 (sg V v)) := by
            unfold mchS
            rw [← he, ← hnm', hv, decide_eq_true e1, decide_eq_true (show (v : Int) ≠ -1 by omega), Int.toNat_natCast]
            simp
          rw [mt]
          by_cases cm : w.drop (e + 1).toNat = wrF 12 0 0 (sg V v)
          · rw [if_pos cm] at en
            rw [if_pos (decide_eq_true cm), List.foldl_cons]
            refine ev_gcr en ?_
            refine ev_gg (by decide) ?_
            refine ev_ite (fun z => absurd z (by decide)) (fun _ => ?_)
            refine ev_gc (fn_meets (d := d - 1) hc h2' (x := (i : Int)) (Or.inr (by omega))) (fun _ S3 q3 => ?_)
            obtain ⟨q3, m3⟩ := q3
            rw [mtI_nat] at q3
            have hN3 : SV S3 442 nm := sv_fr hN2 m3 (by unfold fnM; omega) (by unfold fnM; omega)
            exact nx _ S3 q3 hN3
          · rw [if_neg cm] at en
            rw [if_neg (by rw [decide_eq_false cm]; decide)]
            refine ev_gcr en ?_
            refine ev_gg (by decide) ?_
            refine ev_ite (fun _ => ?_) (fun z => absurd rfl z)
            exact nx L S2 h2' hN2
    · rw [ks_nil (by omega), show cur i (g + nz V g) = -1 from if_neg hi]
      refine ev_up (fun n => e_X2_meetMatches_40) ?_
      unfold b_X2_meetMatches_40
      repeat' (first
        | with_reducible refine ev_gv ?_
        | with_reducible refine ev_gg ?_ ?_
        | with_reducible refine ev_ite (fun _ => ?_) (fun _ => ?_)
        | omega
        | assumption)
      exact ev_ret h
theorem x9_addPart_no {s c2 : Nat} {l l2 : List Int} {t : Int} (hs : gSh s) (hc2 : gSh c2) (hd : 1 ≤ d) (h2 : SV S c2 l2) (ht : t ≤ 1 ∧ inr t) (h : SX s S0 l S) : Ev (fun n => f_X9_addPart n d 0 S [((s : Nat) : Int), ((c2 : Nat) : Int), 1, t]) (fun _ S1 => SX s S0 l S1) := by
  have l2' := sv_le h2
  refine ev_up (fun n => e_X9_addPart_0) ?_
  unfold b_X9_addPart_0
  repeat' (first
    | with_reducible refine ev_gv ?_
    | with_reducible refine ev_gg ?_ ?_
    | with_reducible refine ev_ite (fun _ => ?_) (fun _ => ?_)
    | omega
    | assumption)
  refine ev_up (fun n => e_X9_addPart_7) ?_
  unfold b_X9_addPart_7
  repeat' (first
    | with_reducible refine ev_gv ?_
    | with_reducible refine ev_gg ?_ ?_
    | with_reducible refine ev_ite (fun _ => ?_) (fun _ => ?_)
    | refine ev_gcr (s9_length hc2 h2) ?_
    | omega
    | assumption)
  all_goals exact ev_ret h
theorem fn_matches {g : Nat} {L : List Nat} (hc : gT c) (hd : 41 ≤ d) (hw : WF V) (hg : g < V.length) (hwr : WrOK V) (hwl : w.length ≤ 400) (h : FnS c V w S0 L S) : Ev (fun q => f_X2_meetMatches q d 0 S [((c : Nat) : Int), (g : Int)]) (fun _ S1 => FnS c V w S0 (((kids V g).filter (mchS V w)).foldl mtA L) S1) := by
  have hs440 : gSh 440 := by decide
  have hs442 : gSh 442 := by decide
  have hz := pz_l (nr_pzl h.1.2.2.2)
  have l := tv_l h.1
  have we := hw.1 g hg
  have er := plF_r 61 w 0
  have pl := s9_placeOf (d := d - 1) (x := 61) hs440 (by omega) h.2.1 (by decide)
  -- behind the name
  have body : ∀ (nm : List Int) (S2 : GS), (plF 61 w 0 ≠ -1 → nm = (w.take (plF 61 w 0).toNat).drop 1) → SX 442 S nm S2 → Ev (fun q => gg (gT c) <| gc (f_X10_first q (d - 1) 0 S2 [((c : Nat) : Int), (g : Int)]) fun x12 S_13 => f_X2_meetMatches q d 40 S_13 [((c : Nat) : Int), (g : Int), plF 61 w 0, x12, 0]) (fun _ S1 => FnS c V w S0 (((kids V g).filter (mchS V w)).foldl mtA L) S1) := by
    intro nm S2 hnm s2
    have m2 : Fr (shM 442) S S2 := s2.2.1
    have h2 : FnS c V w S0 L S2 := fn_step hc h m2 (fun k z => by unfold shM at z; unfold fnA; omega) (fs_fr h.2.2.1 m2 (by unfold shM; omega) (by unfold shM; omega) (by unfold shM; omega)) h.2.2.2.1 s2.2.2
    refine ev_gg hc ?_
    refine ev_gcr (t_first (d := d - 1) hc h2.1 hw hg) ?_
    exact fn_match40 (d := d) hc (by omega) hw hg hwr rfl hnm _ (g + 1) 0 L S2 (Nat.lt_succ_self _) (by omega) (by omega) (by omega) s2.1 h2
  refine ev_up (fun n => e_X2_meetMatches_0) ?_
  unfold b_X2_meetMatches_0
  refine ev_gg (by omega) ?_
  refine ev_gcr pl ?_
  refine ev_gc (sx_clear hs442 h.2.2.2.2.2) (fun _ S1 s1 => ?_)
  have v1 := sv_sx hs442 hs440 (by decide) h.2.1 s1
  by_cases e1 : plF 61 w 0 ≤ 1
  · refine ev_gc (x9_addPart_no (d := d - 1) hs442 hs440 (by omega) v1 ⟨e1, by constructor <;> omega⟩ s1) (fun _ S2 s2 => ?_)
    refine body [] S2 (fun z => ?_) s2
    rw [List.drop_eq_nil_of_le (by simp; omega)]
  · have ap := s9_addPart (d := d - 1) (c := 442) (c2 := 440) (i := 1) (t := (plF 61 w 0).toNat) hs442 hs440 (by decide) (by omega) (by omega) (by decide) v1 (sx_rf s1.2.2 s1.1) (by show ([] : List Int).length + _ ≤ 400; simp; omega)
    rw [List.nil_append, show (((plF 61 w 0).toNat : Nat) : Int) = plF 61 w 0 by omega] at ap
    refine ev_gc ap (fun _ S2 s2 => ?_)
    exact body _ S2 (fun _ => rfl) (sx_then s1 s2)
theorem fn_stepFrom {g : Nat} {L : List Nat} (hc : gT c) (hd : 42 ≤ d) (hw : WF V) (hg : g < V.length) (hwr : WrOK V) (hwl : w.length ≤ 400) (hw2 : ∀ x ∈ w, x < 256) (h : FnS c V w S0 L S) : Ev (fun q => f_X2_stepFrom q d 0 S [((c : Nat) : Int), (g : Int)]) (fun _ S1 => FnS c V w S0 ((stC V w g).foldl mtA L) S1) := by
  have hs440 : gSh 440 := by decide
  have hz := pz_l (nr_pzl h.1.2.2.2)
  have l := tv_l h.1
  have we := hw.1 g hg
  have sy1 := s9_says (d := d - 1) (t := 18) hs440 (by decide) (by omega) h.2.1
  have sy2 := s9_says (d := d - 1) (t := 19) hs440 (by decide) (by omega) h.2.1
  have e0 : Rd (fun n => f_X9_at n (d - 1) 0 S [((440 : Nat) : Int), 0]) (hdI w) S := rd_as (s9_at (d := d - 1) (i := (0 : Int)) hs440 h.2.1 (by decide)) (by have := atD_drop (l := w) (i := 0); simpa using this)
  have rb : -1 ≤ hdI w ∧ hdI w < 65536 := by
    have := sv_wb (i := 0) h.2.1
    rw [atD_drop, List.drop_zero] at this
    exact this
  unfold stC
  by_cases c1 : w = sx 18
  · rw [if_pos c1] at sy1
    rw [if_pos c1]
    have k := fn_deep14 (d := d) (S0 := S0) hc (by omega) hw hg _ g L S (show g + nz V g - g = nz V g by omega) (by omega) h
    refine ev_up (fun n => e_X2_stepFrom_0) ?_
    unfold b_X2_stepFrom_0
    repeat' (first
      | with_reducible refine ev_gv ?_
      | with_reducible refine ev_gg ?_ ?_
      | with_reducible refine ev_ite (fun _ => ?_) (fun _ => ?_)
      | refine ev_gcr (sy1) ?_
      | omega
      | assumption)
    all_goals exact k
  rw [if_neg c1] at sy1
  rw [if_neg c1]
  by_cases c2 : w = sx 19
  · rw [if_pos c2] at sy2
    rw [if_pos c2]
    have k := fn_all58 (d := d) (S0 := S0) hc (by omega) hw hg _ (g + 1) 0 L S (Nat.lt_succ_self _) (by omega) (by omega) (by omega) h
    refine ev_up (fun n => e_X2_stepFrom_0) ?_
    unfold b_X2_stepFrom_0
    repeat' (first
      | with_reducible refine ev_gv ?_
      | with_reducible refine ev_gg ?_ ?_
      | with_reducible refine ev_ite (fun _ => ?_) (fun _ => ?_)
      | refine ev_gcr (sy1) ?_
      | refine ev_gcr (sy2) ?_
      | refine ev_gcr (t_first hc h.1 hw hg) ?_
      | omega
      | assumption)
    all_goals exact k
  rw [if_neg c2] at sy2
  rw [if_neg c2]
  by_cases c3 : hdI w = 63
  · rw [if_pos c3]
    have k := fn_matches (d := d - 1) hc (by omega) hw hg hwr hwl h
    refine ev_up (fun n => e_X2_stepFrom_0) ?_
    unfold b_X2_stepFrom_0
    repeat' (first
      | with_reducible refine ev_gv ?_
      | with_reducible refine ev_gg ?_ ?_
      | with_reducible refine ev_ite (fun _ => ?_) (fun _ => ?_)
      | refine ev_gcr (sy1) ?_
      | refine ev_gcr (sy2) ?_
      | refine ev_gcr (e0) ?_
      | omega
      | assumption)
    refine ev_gc k (fun _ S1 q1 => ?_)
    exact ev_ret q1
  rw [if_neg c3]
  unfold stpN
  have fin : ∀ x : Int, nOK V x → Ev (fun n => gc (f_X2_meet n (d - 1) 0 S [x]) fun _ S_27 => some (0, S_27)) (fun _ S1 => FnS c V w S0 ((if x = -1 then [] else [x.toNat]).foldl mtA L) S1) := by
    intro x hx
    refine ev_gc (fn_meets (d := d - 1) hc h hx) (fun _ S1 q1 => ?_)
    refine ev_ret ?_
    have q := q1.1
    by_cases z : x = -1
    · rw [if_pos z]
      unfold mtI at q
      rw [if_neg (by omega)] at q
      exact q
    · rw [if_neg z]
      unfold mtI at q
      rw [if_pos (by rcases hx with y | y <;> omega)] at q
      exact q
  have ei : isI V (g : Int) 4 = if nk V g = 4 then 1 else 0 := by
    unfold isI
    by_cases q : nk V g = 4
    · rw [if_pos q, if_pos ⟨by omega, by rw [Int.toNat_natCast]; exact q⟩]
    · rw [if_neg q, if_neg (fun z => q (by have := z.2; rwa [Int.toNat_natCast] at this))]
  by_cases c4 : nk V g = 4
  · rw [if_pos c4] at ei
    rw [if_pos c4]
    have pw : inr (plW V g w) := by
      have r1 := plN_r w
      have r2 := plN_r (w.drop 1)
      have r3 : (kids V g).length ≤ 100 := by
        have := ks_len hz _ (g + 1) (g + nz V g) (Nat.lt_succ_self _)
        unfold kids
        omega
      unfold plW
      split
      · split <;> constructor <;> omega
      · constructor <;> omega
    have nx : nOK V (atK (kids V g) (plW V g w)) := by
      rcases atK_mem (kids V g) (plW V g w) with q | ⟨k, h1, h2⟩
      · exact Or.inl q
      · right; rw [h2]
        have := kids_in hw hz hg h1
        omega
    have k := fin _ nx
    refine ev_up (fun n => e_X2_stepFrom_0) ?_
    unfold b_X2_stepFrom_0
    repeat' (first
      | with_reducible refine ev_gv ?_
      | with_reducible refine ev_gg ?_ ?_
      | with_reducible refine ev_ite (fun _ => ?_) (fun _ => ?_)
      | refine ev_gcr (sy1) ?_
      | refine ev_gcr (sy2) ?_
      | refine ev_gcr (e0) ?_
      | refine ev_gcr (rd_as (t_is (i := (g : Int)) (k := 4) hc h.1 (by constructor <;> omega) (by decide)) ei) ?_
      | refine ev_gcr (fn_placeIn (g := g) hc (by omega) h.1 hw h.2.1 hw2 hg) ?_
      | refine ev_gcr (t_valueAt (p := plW V g w) hc h.1 hw hg (by omega) pw) ?_
      | omega
      | assumption)
    all_goals exact k
  · rw [if_neg c4] at ei
    rw [if_neg c4]
    have k := fin _ (vLk_r hw hz (g : Int) w)
    refine ev_up (fun n => e_X2_stepFrom_0) ?_
    unfold b_X2_stepFrom_0
    repeat' (first
      | with_reducible refine ev_gv ?_
      | with_reducible refine ev_gg ?_ ?_
      | with_reducible refine ev_ite (fun _ => ?_) (fun _ => ?_)
      | refine ev_gcr (sy1) ?_
      | refine ev_gcr (sy2) ?_
      | refine ev_gcr (e0) ?_
      | refine ev_gcr (rd_as (t_is (i := (g : Int)) (k := 4) hc h.1 (by constructor <;> omega) (by decide)) ei) ?_
      | refine ev_gcr (t_valueOf (g := (g : Int)) hc h.1 hw (by constructor <;> omega) (by omega) hs440 h.2.1) ?_
      | omega
      | assumption)
    all_goals exact k
end FM
