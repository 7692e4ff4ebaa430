/-! the Editor of the class: CUT, held, exchanged, tested -/
theorem plK_split (x : Nat) : ∀ (K : List Nat) (n : Nat), x ∈ K → ∃ (K1 K2 : List Nat), K = K1 ++ x :: K2 ∧ plK x K n = ((n + K1.length : Nat) : Int)
  | [], n, h => by cases h
  | k :: K, n, h => by
    unfold plK
    by_cases c : k = x
    · rw [if_pos c, c]
      exact ⟨[], K, rfl, rfl⟩
    · rw [if_neg c]
      obtain ⟨K1, K2, a, b⟩ := plK_split x K (n + 1) ((List.mem_cons.mp h).resolve_left (fun e => c e.symm))
      refine ⟨k :: K1, K2, by rw [a]; rfl, ?_⟩
      rw [b]
      simp only [List.length_cons]
      omega
/-- without a NODE and its own -/
def cutT (V : List ND) (i : Nat) : List ND := updF (delT (plI V i).toNat) V.length V (owI V i).toNat
theorem cut_parts {V : List ND} (h : TR V ∧ PZL V) {i : Nat} (h1 : 1 ≤ i) (hi : i < V.length) : ∃ (o p : Nat), owI V i = (o : Int) ∧ plI V i = (p : Int) ∧ o < i ∧ i < o + nz V o ∧ 4 ≤ nk V o ∧ p < (kids V o).length ∧ i = o + 1 + ((kd (sg V o)).take p).flatten.length ∧ kd (sg V o) = (kd (sg V o)).take p ++ [sg V i] ++ (kd (sg V o)).drop (p + 1) := by
  have hz := pz_l h.2
  obtain ⟨o, e1, e2, e3, e4, e5⟩ := own_kid h h1 hi
  obtain ⟨K1, K2, f1, f2⟩ := plK_split i (kids V o) 0 e4
  have wo := h.1.1.1 o (by omega)
  have sp := ks_split h.1.1 hz wo K1 (o + 1) i K2 f1
  have ek : kd (sg V o) = (kids V o).map (sg V) := kd_sg h.2 h.1.1 (by omega)
  have et : (kd (sg V o)).take K1.length = K1.map (sg V) := by
    rw [ek, f1, List.map_append, List.take_append_of_le_length (by simp), List.take_of_length_le (by simp)]
  have ed : (kd (sg V o)).drop (K1.length + 1) = K2.map (sg V) := by
    rw [ek, f1, List.map_append, List.drop_append, List.drop_eq_nil_of_le (by simp), List.nil_append, List.map_cons, List.length_map, show K1.length + 1 - K1.length = 1 by omega]
    rfl
  refine ⟨o, K1.length, e1, ?_, e2, e3, e5, ?_, ?_, ?_⟩
  · unfold plI
    rw [e1, if_pos (by omega), Int.toNat_natCast, f2, Nat.zero_add]
  · rw [f1]; simp
  · rw [et]; omega
  · rw [et, ed, ek, f1]
    simp
theorem cut_spl {V : List ND} (h : TR V ∧ PZL V) {i o : Nat} (h1 : 1 ≤ i) (hi : i < V.length) (ho : owI V i = (o : Int)) : spl V o i (nz V i) [] = cutT V i ∧ (TR (cutT V i) ∧ PZL (cutT V i)) ∧ (cutT V i).length + nz V i = V.length := by
  have hz := pz_l h.2
  obtain ⟨o', p, e1, e2, e3, e4, e5, e6, e7, e8⟩ := cut_parts h h1 hi
  have : o' = o := by omega
  subst this
  have ol : o' < V.length := by omega
  have ls := sg_len h.1.1 hi
  have su := spl_upd (V := V) (o := o') (a := i) (g := nz V i) (E1 := (kd (sg V o')).take p) (M := [sg V i]) (E2 := (kd (sg V o')).drop (p + 1)) (N := []) h ol e5 e8 e7 (by simp [ls]) (fun t ht => by cases ht)
  have hs := tr_sg h.1.1 h.2 ol
  have r4 : 4 ≤ rk (sg V o') := by rw [rk_sg ol (hz o')]; exact e5
  have eE : (kd (sg V o')).take p ++ [] ++ (kd (sg V o')).drop (p + 1) = (kd (sg V o')).take p ++ (kd (sg V o')).drop (p + 1) := by simp
  have ec : spl V o' i (nz V i) [] = cutT V i := by
    have su' : spl V o' i (nz V i) [] = _ := su
    rw [su']
    unfold cutT
    rw [e1, e2, Int.toNat_natCast, Int.toNat_natCast]
    refine upd_same V.length V o' (Nat.le_refl _) h ol ?_
    show gpN _ ((kd (sg V o')).take p ++ [] ++ (kd (sg V o')).drop (p + 1)) _ = gpN _ ((kd (sg V o')).take p ++ (kd (sg V o')).drop (p + 1)) _
    rw [eE]
  have hk := kd_tr hs.1 hs.2
  have hE : ∀ t ∈ (kd (sg V o')).take p ++ (kd (sg V o')).drop (p + 1), TR t ∧ PZL t := fun t ht => by
    rcases List.mem_append.mp ht with w | w
    · exact hk t (List.mem_of_mem_take w)
    · exact hk t (List.mem_of_mem_drop w)
  have td : TR (delT p (sg V o')) ∧ PZL (delT p (sg V o')) := by
    unfold delT
    exact ⟨tr_gp r4 (fun t ht => (hE t ht).1), pzl_gp (fun t ht => (hE t ht).2)⟩
  have ut := upd_tr (h := delT p) V.length V o' (Nat.le_refl _) h ol td
  have el : (delT p (sg V o')).length + nz V i = (sg V o').length := by
    have e := congrArg List.length (kd_flat hs.2 hs.1.2.1)
    have e9 := congrArg (fun E => (List.flatten E).length) e8
    simp only [List.flatten_append, List.length_append, List.flatten_cons, List.flatten_nil, List.append_nil, ls] at e9
    unfold delT
    rw [gp_len, List.flatten_append, List.length_append]
    rw [List.length_cons] at e
    omega
  have eu : cutT V i = updF (delT p) V.length V o' := by
    unfold cutT
    rw [e1, e2, Int.toNat_natCast, Int.toNat_natCast]
  rw [eu]
  refine ⟨by rw [← eu]; exact ec, ut.1, ?_⟩
  have := ut.2
  omega
theorem stpT_pos {V : List ND} (hw : WF V) (hz : PZ V) {n : Int} (hn : nOK V n) (w : List Int) : stpT V n w = -1 ∨ 1 ≤ stpT V n w := by
  unfold stpT
  split
  · rcases atK_mem (kids V n.toNat) (plN w) with h | ⟨k, h1, h2⟩
    · exact Or.inl h
    · right
      rw [h2]
      have := mem_kids hz h1
      omega
  · unfold vLk
    split
    · rcases fdK_mem (V := V) (key := w) (kidsM V n.toNat) with h | ⟨k, h1, h2, -⟩
      · exact Or.inl h
      · right
        rw [h2]
        unfold kidsM at h1
        split at h1
        · have := mem_kids hz h1
          omega
        · cases h1
    · exact Or.inl rfl
theorem ldF_pos {l : List Int} {V : List ND} (hw : WF V) (hz : PZ V) : ∀ (f i : Nat) (n : Int), nOK V n → ldF l V (f + 1) i n = -1 ∨ 1 ≤ ldF l V (f + 1) i n
  | 0, i, n, hn => by
    show (if n = -1 then -1 else ldF l V 0 (i + 1) (stpT V n (wdA l i))) = -1 ∨ 1 ≤ (if n = -1 then -1 else ldF l V 0 (i + 1) (stpT V n (wdA l i)))
    by_cases c : n = -1
    · rw [if_pos c]; exact Or.inl rfl
    · rw [if_neg c]
      show stpT V n (wdA l i) = -1 ∨ 1 ≤ stpT V n (wdA l i)
      exact stpT_pos hw hz hn _
  | f + 1, i, n, hn => by
    show (if n = -1 then -1 else ldF l V (f + 1) (i + 1) (stpT V n (wdA l i))) = -1 ∨ 1 ≤ (if n = -1 then -1 else ldF l V (f + 1) (i + 1) (stpT V n (wdA l i)))
    by_cases c : n = -1
    · rw [if_pos c]; exact Or.inl rfl
    · rw [if_neg c]
      exact ldF_pos hw hz f (i + 1) _ (stpT_r hw hz hn _)
theorem ldT_pos {l : List Int} {V : List ND} (hw : WF V) (hz : PZ V) (h1 : 1 ≤ V.length) (hn : nW l ≠ 0) : ldT l V (nW l) = -1 ∨ 1 ≤ ldT l V (nW l) := by
  unfold ldT
  obtain ⟨f, hf⟩ : ∃ f, min (nW l) (nW l) = f + 1 := ⟨nW l - 1, by omega⟩
  rw [hf]
  exact ldF_pos hw hz f 0 0 (Or.inr (by omega))
section ED6
variable {S S0 : GS} {a c2 d : Nat} {l : List Int} {V U : List ND} {tn : Bool} {bk : Option (List (List ND))}
def cutR (tn : Bool) (bk : Option (List (List ND))) (l : List Int) (V : List ND) (i : Nat) : Option (List (List ND)) := if tn then recS bk 26 l [sg V i] else bk
def CutQ (tn : Bool) (bk : Option (List (List ND))) (l : List Int) (V : List ND) (S0 : GS) (x : Int) (S1 : GS) : Prop := if ldT l V (nW l) = -1 ∨ nW l = 0 then x = 0 ∧ Fr edP S0 S1 ∧ Good S1 else x = 1 ∧ EdS tn (cutT V (ldT l V (nW l)).toNat) (cutR tn bk l V (ldT l V (nW l)).toNat) S0 S1
/-- where the whole PATH leads -/
theorem ed_leads (ha : gRo a) (hd : 6 ≤ d) (h : TR V ∧ PZL V) (hp : isP l) (hl : rng l) (hr : RoS a l S) (hE : EdS tn V bk S0 S) : Ev (fun n => f_X7_leadsTo n d 0 S [((a : Nat) : Int), ((360 : Nat) : Int), (nW l : Int)]) (fun x S1 => x = ldT l V (nW l) ∧ EdS tn V bk S0 S1 ∧ Fr (shM (rW a)) S S1 ∧ RoS a l S1) := by
  obtain ⟨hT, h7, hB, hF, hG⟩ := hE
  have ll := ro_len hr ha
  have sl := slP_len l 0
  have nw : nW l = (slP l 0).length := rfl
  have re := rS_ed ha
  have r2 := rS_r ha
  have ld := ro_leadsTo (d := d) (u := (nW l : Int)) ha gT360 hd h.1.1 hr hT.1 hp.2 (fun x hx => (hl x hx).2) (by omega) h.1.2.1 hG
  rw [Int.toNat_natCast] at ld
  refine ev_mono ld (fun x S1 q => ⟨q.1, ⟨to_fr hT q.2.1 (fun k z1 z2 z => by unfold shM at z; omega), ?_, bk_fr hB q.2.1 (fun k z1 z2 z => by unfold shM at z; omega), fr_tr hF (fr_mono q.2.1 re.2), q.2.2⟩, q.2.1, ro_ed ha hr q.2.1 re.2⟩)
  rw [(q.2.1 482 (fun z => by unfold shM at z; omega)).2.1]
  exact h7
/-- an ORDER of the way back, if it is wanted -/
theorem ed_back {op j : Nat} {m : Nat → GS → Option (Int × GS)} {Q : Int → GS → Prop} (hop : 21 ≤ op ∧ op ≤ 30) (ha : gRo a) (hd : 10 ≤ d) (h : TR V ∧ PZL V) (hl : rng l) (hr : RoS a l S) (hE : EdS true V bk S0 S) (hc2 : gT c2) (hne : c2 ≠ 376 ∧ c2 ≠ 384) (hu : TO c2 (U, false) S) (hU : WF U) (hj : j < U.length) (nx : ∀ S1, EdS true V (recS bk op l [sg U j]) S0 S1 → RoS a l S1 → (∀ k, (k < 360 ∨ (368 ≤ k ∧ k < 376)) → S1.1 k = S.1 k ∧ S1.2.1 k = S.2.1 k) → Ev (fun n => m n S1) Q) : Ev (fun n => gc (f_X7_textTo n (d - 1) 0 S [((a : Nat) : Int), ((454 : Nat) : Int)]) fun _ S_24 => gc (f_X1_record n (d - 1) 0 S_24 [((op : Nat) : Int), ((c2 : Nat) : Int), (j : Int)]) fun _ S_27 => m n S_27) Q := by
  obtain ⟨hT, h7, hB, hF, hG⟩ := hE
  refine ev_gc (ro_textTo (d := d - 1) (s := 454) ha gSh454 (by have := (rS_r ha).1; omega) (by decide) (by omega) hr hG) (fun _ S4 s4 => ?_)
  have T4 : TO 360 (V, false) S4 := to_fr hT s4.2.1 (fun k y1 y2 => by unfold shM; omega)
  have B4 : BkR bk S4 := bk_fr hB s4.2.1 (fun k y1 y2 => by unfold shM; omega)
  have u4 : TO c2 (U, false) S4 := to_fr hu s4.2.1 (fun k y1 y2 => by unfold shM; omega)
  refine ev_gc (ed_record (d := d - 1) (op := op) (c2 := c2) (p := l) (v := (j : Int)) hop hc2 hne.1 hne.2 (by omega) u4 hU (Or.inr (by omega)) s4.1 (fun x hx => (hl x hx).2) B4 s4.2.2) (fun _ S5 q5 => ?_)
  obtain ⟨B5, m5, G5⟩ := q5
  have f4 : Fr edP S S4 := fr_mono s4.2.1 (fun k y => by unfold shM at y; omega)
  have f5 : Fr edP S S5 := fr_tr f4 (fr_mono m5 recM_ed)
  have ev : vL U (j : Int) = [sg U j] := by unfold vL; rw [if_neg (by omega), Int.toNat_natCast]
  rw [ev] at B5
  refine nx S5 ⟨to_fr T4 m5 (fun k y1 y2 => by unfold recM trM; omega), ?_, B5, fr_tr hF f5, G5⟩ (ro_ed ha hr f5 (fun _ z => z)) (fun k hk => ?_)
  · rw [(m5 482 (by unfold recM trM; omega)).2.1, (s4.2.1 482 (by unfold shM; omega)).2.1]
    exact h7
  · have m5' := m5 k (by unfold recM trM; omega)
    have s4' := s4.2.1 k (by unfold shM; omega)
    exact ⟨by rw [m5'.1, s4'.1], by rw [m5'.2.1, s4'.2.1]⟩
theorem ed_cut (ha : gRo a) (hd : 20 ≤ d) (h : TR V ∧ PZL V) (hp : isP l) (hl : rng l) (hr : RoS a l S) (hE : EdS tn V bk S0 S) : Ev (fun n => f_X1_cutOut n d 0 S [((a : Nat) : Int)]) (fun x S1 => CutQ tn bk l V S0 x S1 ∧ (∀ k, (k < 360 ∨ (368 ≤ k ∧ k < 376)) → S1.1 k = S.1 k ∧ S1.2.1 k = S.2.1 k)) := by
  have ll := ro_len hr ha
  have sl := slP_len l 0
  have nw : nW l = (slP l 0).length := rfl
  have pz := pz_l h.2
  have lV : V.length ≤ 100 := tv_l hE.1.1
  have l1 := h.1.2.1
  have r2 := rS_r ha
  have no : nOK V (ldT l V (nW l)) := ldF_r h.1.1 pz _ _ _ (Or.inr (by omega))
  refine ev_up (fun n => e_X1_cutOut_0) ?_
  unfold b_X1_cutOut_0
  refine ev_gg (by omega) ?_
  refine ev_gg ha ?_
  refine ev_gcr (ro_steps ha hr) ?_
  refine ev_gc (ed_leads (d := d - 1) ha (by omega) h hp hl hr hE) (fun x S1 q1 => ?_)
  obtain ⟨rfl, E1, m1, r1⟩ := q1
  have low1 : ∀ k, (k < 360 ∨ (368 ≤ k ∧ k < 376)) → S1.1 k = S.1 k ∧ S1.2.1 k = S.2.1 k := fun k hk => by
    have := m1 k (fun z => by unfold shM at z; omega)
    exact ⟨this.1, this.2.1⟩
  refine ev_gg (by rcases no with z | z <;> constructor <;> omega) ?_
  unfold CutQ
  by_cases c1 : ldT l V (nW l) = -1
  · simp only [if_pos (Or.inl c1 : ldT l V (nW l) = -1 ∨ nW l = 0)]
    refine ev_ite (fun _ => ?_) (fun z => absurd c1 z)
    exact ev_ret ⟨⟨rfl, E1.2.2.2.1, E1.2.2.2.2⟩, low1⟩
  refine ev_ite (fun z => absurd z c1) (fun _ => ?_)
  refine ev_gcr (ro_steps ha r1) ?_
  refine ev_gg (by constructor <;> omega) ?_
  by_cases c2 : nW l = 0
  · simp only [if_pos (Or.inr c2 : ldT l V (nW l) = -1 ∨ nW l = 0)]
    refine ev_ite (fun z => absurd (by omega) z) (fun _ => ?_)
    exact ev_ret ⟨⟨rfl, E1.2.2.2.1, E1.2.2.2.2⟩, low1⟩
  simp only [if_neg (fun z => z.elim c1 c2 : ¬ (ldT l V (nW l) = -1 ∨ nW l = 0))]
  refine ev_ite (fun _ => ?_) (fun z => absurd (by omega) z)
  have pos := ldT_pos h.1.1 pz l1 c2
  obtain ⟨i, hi⟩ : ∃ i : Nat, ldT l V (nW l) = (i : Int) := ⟨(ldT l V (nW l)).toNat, by omega⟩
  rw [hi] at no pos ⊢
  rw [Int.toNat_natCast]
  have i1 : 1 ≤ i := by omega
  have il : i < V.length := by omega
  obtain ⟨o, p, e1, e2, e3, e4, e5, e6, e7, e8⟩ := cut_parts h i1 il
  have cs := cut_spl h i1 il e1
  -- what is taken out
  have rem : ∀ (S3 : GS) (bk' : Option (List (List ND))), EdS tn V bk' S0 S3 → (∀ k, (k < 360 ∨ (368 ≤ k ∧ k < 376)) → S3.1 k = S.1 k ∧ S3.2.1 k = S.2.1 k) → Ev (fun n => gc (f_X10_remove n (d - 1) 0 S3 [((360 : Nat) : Int), (i : Int)]) fun _ S_21 => some (1, S_21)) (fun x S1 => (x = 1 ∧ EdS tn (cutT V i) bk' S0 S1) ∧ (∀ k, (k < 360 ∨ (368 ≤ k ∧ k < 376)) → S1.1 k = S.1 k ∧ S1.2.1 k = S.2.1 k)) := by
    intro S3 bk' E3 low
    have rm := ty_remove (d := d - 1) (S0 := S3) (c := 360) (i := i) (o := o) (W := (V, false)) gT360 (by omega) h.1.1 il e1 rfl (fun q h1 h2 => by
      by_cases z : q = o
      · subst z
        have := h.1.1.2.1 q i (by omega) e4
        exact this
      · have w1 := h.1.1.2.1 q o (by omega) h2
        have w2 := h.1.1.2.1 o i e3 e4
        show i + nz V i ≤ q + nz V q
        omega) (ty_to E3.1 E3.2.2.2.2)
    refine ev_gc rm (fun _ S4 q4 => ?_)
    rw [show spl (V, false).1 o i (nz (V, false).1 i) [] = cutT V i from cs.1] at q4
    refine ev_ret ⟨⟨rfl, to_ty q4, ?_, bk_fr E3.2.2.1 q4.2.2.1 (fun k z1 z2 => by unfold trM; omega), fr_tr E3.2.2.2.1 (fr_mono q4.2.2.1 (fun k z => Or.inl z)), q4.2.2.2⟩, fun k hk => ?_⟩
    · rw [(q4.2.2.1 482 (by unfold trM; omega)).2.1]
      exact E3.2.1
    · have := q4.2.2.1 k (by unfold trM; omega)
      have := low k hk
      constructor
      · rw [(q4.2.2.1 k (by unfold trM; omega)).1]; exact this.1
      · rw [(q4.2.2.1 k (by unfold trM; omega)).2.1]; exact this.2
  rw [E1.2.1]
  refine ev_gv ?_
  unfold cutR
  cases htn : tn with
  | false =>
    rw [htn] at E1
    refine ev_gg (by decide) ?_
    refine ev_ite (fun _ => ?_) (fun y => absurd rfl y)
    have k := rem S1 bk (by rw [htn]; exact E1) low1
    rw [htn] at k
    exact k
  | true =>
    rw [htn] at E1
    refine ev_gg (by decide) ?_
    refine ev_ite (fun y => absurd y (by decide)) (fun _ => ?_)
    refine ed_back (d := d) (op := 26) (c2 := 360) (j := i) (m := fun n S_27 => gc (f_X10_remove n (d - 1) 0 S_27 [((360 : Nat) : Int), (i : Int)]) fun _ S_30 => some (1, S_30)) (by decide) ha (by omega) h hl r1 E1 gT360 (by decide) E1.1 h.1.1 il (fun S3 E3 _ low => ?_)
    have k := rem S3 (recS bk 26 l [sg V i]) (by rw [htn]; exact E3) (fun k hk => by
      have a1 := low k hk
      have a2 := low1 k hk
      exact ⟨by rw [a1.1, a2.1], by rw [a1.2, a2.2]⟩)
    rw [htn] at k
    exact k
end ED6
