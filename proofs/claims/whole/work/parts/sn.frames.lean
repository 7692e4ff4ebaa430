/-! THE REFERENCE asks: its frames -/
def RefQ (refs : List (Int × Int)) (S : GS) : Prop := S.1 500 76 = (refs.length : Int) ∧ ∀ i, i < refs.length → S.1 549 i = (prA refs i).1 ∧ S.1 550 i = (prA refs i).2
abbrev RefK (refs : List (Int × Int)) : Prop := refs.length ≤ 13 ∧ ∀ x ∈ refs, (0 ≤ x.1 ∧ x.1 < 100) ∧ 0 ≤ x.2 ∧ x.2 < 100
/-- a frame: who is asked, about what; the WORD and the place; where its COMPLAINTS begin; how many said yes; whether it waits -/
def FrQ (k : Nat) (a b w p beg yes : Int) (wt : Bool) (S : GS) : Prop := ((S.1 541 k = a ∧ S.1 542 k = b) ∧ S.1 543 k = w ∧ S.1 544 k = p) ∧ (S.1 545 k = beg ∧ S.1 547 k = yes) ∧ S.2.1 548 k = wt
def AkS (A B : Nat) (Sc T : List ND) (refs : List (Int × Int)) (n : Int) (cs : List (Int × Int)) (fr : Nat) (S : GS) : Prop := AbS A B Sc T S ∧ RefQ refs S ∧ CsQ cs S ∧ S.1 500 64 = n ∧ S.1 500 66 = (fr : Int)
theorem ref_fr {P : Nat → Nat → Prop} {refs : List (Int × Int)} {S S1 : GS} (h : RefQ refs S) (hf : FC P S S1) (h1 : ¬ P 500 76) (h2 : ∀ j, ¬ P 549 j) (h3 : ∀ j, ¬ P 550 j) : RefQ refs S1 := ⟨(fc_i hf h1).trans h.1, fun i hi => ⟨(fc_i hf (h2 i)).trans (h.2 i hi).1, (fc_i hf (h3 i)).trans (h.2 i hi).2⟩⟩
theorem frq_fr {P : Nat → Nat → Prop} {k : Nat} {a b w p beg yes : Int} {wt : Bool} {S S1 : GS} (h : FrQ k a b w p beg yes wt S) (hf : FC P S S1) (hP : ∀ c, 541 ≤ c → c ≤ 548 → ¬ P c k) : FrQ k a b w p beg yes wt S1 := by
  obtain ⟨⟨⟨h1, h2⟩, h3, h4⟩, ⟨h5, h6⟩, h7⟩ := h
  exact ⟨⟨⟨(fc_i hf (hP _ (by decide) (by decide))).trans h1, (fc_i hf (hP _ (by decide) (by decide))).trans h2⟩, (fc_i hf (hP _ (by decide) (by decide))).trans h3, (fc_i hf (hP _ (by decide) (by decide))).trans h4⟩, ⟨(fc_i hf (hP _ (by decide) (by decide))).trans h5, (fc_i hf (hP _ (by decide) (by decide))).trans h6⟩, (fc_b hf (hP _ (by decide) (by decide))).trans h7⟩
/-- what no ask depends on changes -/
theorem ak_fr {P : Nat → Nat → Prop} {A B : Nat} {Sc T : List ND} {refs cs : List (Int × Int)} {n : Int} {fr : Nat} {S S1 : GS} (hk : AbK A B Sc T) (h : AkS A B Sc T refs n cs fr S) (hf : FC P S S1) (hP : ∀ c j, P c j → wdP c j ∨ (541 ≤ c ∧ c ≤ 548) ∨ doP 40 c j ∨ eqP c j ∨ c = 510 ∨ (c = 500 ∧ j = 75)) : AkS A B Sc T refs n cs fr S1 := by
  have no : ∀ c j, ¬ (wdP c j ∨ (541 ≤ c ∧ c ≤ 548) ∨ doP 40 c j ∨ eqP c j ∨ c = 510 ∨ (c = 500 ∧ j = 75)) → ¬ P c j := fun c j z y => z (hP c j y)
  obtain ⟨h1, h2, h3, h4, h5⟩ := h
  have inc : ∀ c j, P c j → ckF c j := fun c j z => by
    rcases hP c j z with y | y | y | y | y | y
    · exact wd_ck y
    · exact Or.inr (Or.inr (Or.inr (Or.inr (Or.inr ⟨y.1, by omega⟩))))
    · exact Or.inl y
    · exact eq_ck y
    · exact Or.inr (Or.inr (Or.inr (Or.inl y)))
    · exact Or.inr (Or.inr (Or.inr (Or.inr (Or.inl ⟨y.1, by omega⟩))))
  exact ⟨ab_fr hk h1 hf inc, ref_fr h2 hf (no _ _ (by omega)) (fun j => no _ _ (by omega)) (fun j => no _ _ (by omega)), cs_fr h3 hf (no _ _ (by omega)) (fun j => no _ _ (by omega)), (fc_i hf (no _ _ (by omega))).trans h4, (fc_i hf (no _ _ (by omega))).trans h5⟩
section FRM
variable {S : GS} {d A B k : Nat} {Sc T : List ND} {refs cs : List (Int × Int)} {n : Int}
theorem q_asksOf {a b : Int} (hk : AbK A B Sc T) (h : AkS A B Sc T refs n cs k S) (hk5 : k < 500) : Ev (fun m => f_X12_asksOf m d 0 S [a, b]) (fun _ S1 => AkS A B Sc T refs (n + 1) cs (k + 1) S1 ∧ FrQ k a b 1 0 (cs.length : Int) 0 false S1 ∧ FC (fun c j => (c = 500 ∧ (j = 64 ∨ j = 66)) ∨ f1P k c j) S S1) := by
  obtain ⟨h1, h2, h3, h4, h5⟩ := h
  refine ev_up (fun n => e_X12_asksOf_0) ?_
  unfold b_X12_asksOf_0
  refine ev_gv ?_
  refine ev_gv ?_
  refine ev_gv ?_
  refine ev_gv ?_
  rw [gI_k (show (66 : Nat) ≠ 64 by decide), h5]
  refine ev_gg (by first | omega | (constructor <;> omega)) ?_
  refine ev_gv ?_
  refine ev_gv ?_
  rw [gI_c (show (500 : Nat) ≠ 541 by decide), gI_k (show (66 : Nat) ≠ 64 by decide), h5]
  refine ev_gg (by first | omega | (constructor <;> omega)) ?_
  refine ev_gv ?_
  refine ev_gv ?_
  rw [gI_c (show (500 : Nat) ≠ 542 by decide), gI_c (show (500 : Nat) ≠ 541 by decide), gI_k (show (66 : Nat) ≠ 64 by decide), h5]
  refine ev_gg (by first | omega | (constructor <;> omega)) ?_
  refine ev_gv ?_
  refine ev_gv ?_
  rw [gI_c (show (500 : Nat) ≠ 543 by decide), gI_c (show (500 : Nat) ≠ 542 by decide), gI_c (show (500 : Nat) ≠ 541 by decide), gI_k (show (66 : Nat) ≠ 64 by decide), h5]
  refine ev_gg (by first | omega | (constructor <;> omega)) ?_
  refine ev_gv ?_
  refine ev_gv ?_
  refine ev_gv ?_
  rw [Int.toNat_natCast]
  have e66 : ∀ (x : Int), (gI (gI (gI (gI (gI S 500 64 x) 541 k a) 542 k b) 543 k 1) 544 k 0).1 500 66 = (k : Int) := fun x => by
    rw [gI_c (by decide), gI_c (by decide), gI_c (by decide), gI_c (by decide), gI_k (by decide)]
    exact h5
  have e79 : ∀ (x : Int), (gI (gI (gI (gI (gI S 500 64 x) 541 k a) 542 k b) 543 k 1) 544 k 0).1 500 79 = (cs.length : Int) := fun x => by
    rw [gI_c (by decide), gI_c (by decide), gI_c (by decide), gI_c (by decide), gI_k (by decide)]
    exact h3.1
  rw [e66, e79]
  refine ev_gg (by first | omega | (constructor <;> omega)) ?_
  refine ev_gv ?_
  refine ev_gv ?_
  rw [Int.toNat_natCast, gI_c (show (500 : Nat) ≠ 545 by decide), e66]
  refine ev_gg (by first | omega | (constructor <;> omega)) ?_
  refine ev_gv ?_
  refine ev_gv ?_
  rw [Int.toNat_natCast, gI_c (show (500 : Nat) ≠ 547 by decide), gI_c (show (500 : Nat) ≠ 545 by decide), e66]
  refine ev_gg (by first | omega | (constructor <;> omega)) ?_
  refine ev_gv ?_
  refine ev_gv ?_
  rw [Int.toNat_natCast, gB_i, gI_c (show (500 : Nat) ≠ 547 by decide), gI_c (show (500 : Nat) ≠ 545 by decide), e66]
  refine ev_gv ?_
  refine ev_gv ?_
  rw [h4]
  have f : FC (fun c j => (c = 500 ∧ (j = 64 ∨ j = 66)) ∨ f1P k c j) S (gI (gB (gI (gI (gI (gI (gI (gI (gI S 500 64 (n + 1)) 541 k a) 542 k b) 543 k 1) 544 k 0) 545 k (cs.length : Int)) 547 k 0) 548 k (decide ((0 : Int) = 1))) 500 66 ((k : Int) + 1)) := fc_tr (fc_gI (Or.inl ⟨rfl, Or.inl rfl⟩)) (fc_tr (fc_gI (Or.inr ⟨by decide, by decide, rfl⟩)) (fc_tr (fc_gI (Or.inr ⟨by decide, by decide, rfl⟩)) (fc_tr (fc_gI (Or.inr ⟨by decide, by decide, rfl⟩)) (fc_tr (fc_gI (Or.inr ⟨by decide, by decide, rfl⟩)) (fc_tr (fc_gI (Or.inr ⟨by decide, by decide, rfl⟩)) (fc_tr (fc_gI (Or.inr ⟨by decide, by decide, rfl⟩)) (fc_tr (fc_gB (Or.inr ⟨by decide, by decide, rfl⟩)) (fc_gI (Or.inl ⟨rfl, Or.inr rfl⟩)))))))))
  refine ev_ret ⟨⟨ab_fr hk h1 f (fun c j z => ak_ck (ao_ak z)), ref_fr h2 f (by omega) (fun j => by omega) (fun j => by omega), cs_fr h3 f (by omega) (fun j => by omega), ?_, by rw [gI_a]; omega⟩, ⟨⟨⟨?_, ?_⟩, ?_, ?_⟩, ⟨?_, ?_⟩, ?_⟩, f⟩
  · rw [gI_k (by decide), gB_i, gI_c (by decide), gI_c (by decide), gI_c (by decide), gI_c (by decide), gI_c (by decide), gI_c (by decide)]
    exact gI_a
  · rw [gI_c (by decide), gB_i, gI_c (by decide), gI_c (by decide), gI_c (by decide), gI_c (by decide), gI_c (by decide)]
    exact gI_a
  · rw [gI_c (by decide), gB_i, gI_c (by decide), gI_c (by decide), gI_c (by decide), gI_c (by decide)]
    exact gI_a
  · rw [gI_c (by decide), gB_i, gI_c (by decide), gI_c (by decide), gI_c (by decide)]
    exact gI_a
  · rw [gI_c (by decide), gB_i, gI_c (by decide), gI_c (by decide)]
    exact gI_a
  · rw [gI_c (by decide), gB_i, gI_c (by decide)]
    exact gI_a
  · rw [gI_c (by decide), gB_i]
    exact gI_a
  · rw [gI_b, gB_a]
    rfl
/-- only the last frame changes -/
theorem ak_f1 {fr : Nat} {S1 : GS} (hk : AbK A B Sc T) (h : AkS A B Sc T refs n cs fr S) (hf : FC (f1P k) S S1) : AkS A B Sc T refs n cs fr S1 := ak_fr hk h hf (fun c j z => Or.inr (Or.inl ⟨z.1, z.2.1⟩))
theorem cs_cut {es : List (Int × Int)} (h : CsQ (cs ++ es) S) : CsQ cs (gI S 500 79 (cs.length : Int)) := ⟨gI_a, (fun i hi => by
  rw [gI_c (by decide)]
  have := h.2.1 i (by rw [List.length_append]; omega)
  rw [this]
  show 32 * ((cs ++ es).getD i (0, 0)).1 + ((cs ++ es).getD i (0, 0)).2 = _
  rw [List.getD_eq_getElem?_getD, List.getElem?_append_left hi, ← List.getD_eq_getElem?_getD]), fun x hx => h.2.2 x (List.mem_append.mpr (Or.inl hx))⟩
/-- a frame hears what was asked: of VALUES -/
theorem q_hears0 {a b w p beg yes : Int} (h : FrQ k a b w p beg yes true S) (hk5 : k < 500) (hw : 7 ≤ w ∧ w ≤ 11) : Ev (fun m => f_X12_hears m d 0 S [(k : Int)]) (fun _ S1 => FrQ k a b w p beg yes false S1 ∧ FC (f1P k) S S1) := by
  obtain ⟨⟨⟨h1, h2⟩, h3, h4⟩, ⟨h5, h6⟩, h7⟩ := h
  refine ev_up (fun n => e_X12_hears_0) ?_
  unfold b_X12_hears_0
  refine ev_gg (by first | omega | (constructor <;> omega)) ?_
  refine ev_gv ?_
  rw [Int.toNat_natCast]
  refine ev_gv ?_
  rw [gB_i, h3]
  refine ev_gg (by first | omega | (constructor <;> omega)) ?_
  refine ev_ite (fun _ => ?_) (fun z => by omega)
  refine ev_up (fun n => e_X12_hears_57) ?_
  unfold b_X12_hears_57
  refine ev_gg (by first | omega | (constructor <;> omega)) ?_
  refine ev_ite (fun _ => ?_) (fun z => by omega)
  refine ev_up (fun n => e_X12_hears_92) ?_
  unfold b_X12_hears_92
  refine ev_gg (by first | omega | (constructor <;> omega)) ?_
  refine ev_ite (fun _ => ?_) (fun z => by omega)
  exact ev_ret ⟨⟨⟨⟨by rw [gB_i]; exact h1, by rw [gB_i]; exact h2⟩, by rw [gB_i]; exact h3, by rw [gB_i]; exact h4⟩, ⟨by rw [gB_i]; exact h5, by rw [gB_i]; exact h6⟩, by rw [gB_a]; rfl⟩, fc_gB ⟨by decide, by decide, rfl⟩⟩
/-- of SCHEMAS whose COMPLAINTS do not stay -/
theorem q_hears1 {a b w p beg yes n1 : Int} {es : List (Int × Int)} {fr : Nat} (hk : AbK A B Sc T) (h : FrQ k a b w p beg yes true S) (hA : AkS A B Sc T refs n1 (cs ++ es) fr S) (hm : S.1 546 k = (cs.length : Int)) (hs : S.2.1 500 75 = decide (es = [])) (hk5 : k < 500) (hw : 12 ≤ w ∧ w ≤ 13) (hy : 0 ≤ yes ∧ yes ≤ 1000) : Ev (fun m => f_X12_hears m d 0 S [(k : Int)]) (fun _ S1 => FrQ k a b w p beg (yes + if es = [] then 1 else 0) false S1 ∧ AkS A B Sc T refs n1 cs fr S1 ∧ FC (fun c j => f1P k c j ∨ (c = 500 ∧ j = 79)) S S1) := by
  obtain ⟨⟨⟨h1, h2⟩, h3, h4⟩, ⟨h5, h6⟩, h7⟩ := h
  obtain ⟨g1, g2, g3, g4, g5⟩ := hA
  have p45 : ∀ s0 : Int, s0 = (if es = [] then 1 else 0) → Ev (fun m => f_X12_hears m d 45 (gB S 548 k (decide ((0 : Int) = 1))) [(k : Int), w, s0, yes, (k : Int)]) (fun _ S1 => FrQ k a b w p beg (yes + if es = [] then 1 else 0) false S1 ∧ AkS A B Sc T refs n1 cs fr S1 ∧ FC (fun c j => f1P k c j ∨ (c = 500 ∧ j = 79)) S S1) := by
    intro s0 hs0
    refine ev_up (fun n => e_X12_hears_45) ?_
    unfold b_X12_hears_45
    refine ev_gv ?_
    refine ev_gg (by first | omega | (constructor <;> omega)) ?_
    refine ev_gv ?_
    rw [Int.toNat_natCast]
    refine ev_gg (by first | omega | (constructor <;> omega)) ?_
    refine ev_gv ?_
    rw [gI_c (show (546 : Nat) ≠ 547 by decide), gB_i, hm]
    refine ev_gv ?_
    refine ev_up (fun n => e_X12_hears_57) ?_
    unfold b_X12_hears_57
    refine ev_gg (by first | omega | (constructor <;> omega)) ?_
    refine ev_ite (fun _ => ?_) (fun z => by omega)
    refine ev_up (fun n => e_X12_hears_92) ?_
    unfold b_X12_hears_92
    refine ev_gg (by first | omega | (constructor <;> omega)) ?_
    refine ev_ite (fun _ => ?_) (fun z => by omega)
    have f : FC (fun c j => f1P k c j ∨ (c = 500 ∧ j = 79)) S (gI (gI (gB S 548 k (decide ((0 : Int) = 1))) 547 k (yes + s0)) 500 79 (cs.length : Int)) := fc_tr (fc_gB (Or.inl ⟨by decide, by decide, rfl⟩)) (fc_tr (fc_gI (Or.inl ⟨by decide, by decide, rfl⟩)) (fc_gI (Or.inr ⟨rfl, rfl⟩)))
    have c2 : CsQ cs (gI (gI (gB S 548 k (decide ((0 : Int) = 1))) 547 k (yes + s0)) 500 79 (cs.length : Int)) := cs_cut (es := es) (cs_fr g3 (fc_tr (fc_gB (P := f1P k) ⟨by decide, by decide, rfl⟩) (fc_gI ⟨by decide, by decide, rfl⟩)) (by omega) (fun j => by omega))
    refine ev_ret ⟨⟨⟨⟨?_, ?_⟩, ?_, ?_⟩, ⟨?_, ?_⟩, ?_⟩, ⟨ab_fr hk g1 f (fun c j z => z.elim f1_ck (fun y => cs_ck (Or.inl y))), ref_fr g2 f (by omega) (fun j => by omega) (fun j => by omega), c2, (fc_i f (by omega)).trans g4, (fc_i f (by omega)).trans g5⟩, f⟩
    · rw [gI_c (by decide), gI_c (by decide), gB_i]; exact h1
    · rw [gI_c (by decide), gI_c (by decide), gB_i]; exact h2
    · rw [gI_c (by decide), gI_c (by decide), gB_i]; exact h3
    · rw [gI_c (by decide), gI_c (by decide), gB_i]; exact h4
    · rw [gI_c (by decide), gI_c (by decide), gB_i]; exact h5
    · rw [gI_c (by decide), gI_a, hs0]
    · rw [gI_b, gI_b, gB_a]; rfl
  refine ev_up (fun n => e_X12_hears_0) ?_
  unfold b_X12_hears_0
  refine ev_gg (by first | omega | (constructor <;> omega)) ?_
  refine ev_gv ?_
  rw [Int.toNat_natCast]
  refine ev_gv ?_
  rw [gB_i, h3]
  refine ev_gg (by first | omega | (constructor <;> omega)) ?_
  refine ev_ite (fun z => by omega) (fun _ => ?_)
  refine ev_ite (fun z => by omega) (fun _ => ?_)
  refine ev_gv ?_
  rw [h6]
  refine ev_gv ?_
  rw [gB_c (show (500 : Nat) ≠ 548 by decide), hs]
  by_cases z : es = []
  · rw [decide_eq_true z]
    refine ev_gg (by decide) ?_
    refine ev_ite (fun y => absurd y (by decide)) (fun _ => ?_)
    exact p45 1 (by rw [if_pos z])
  · rw [decide_eq_false z]
    refine ev_gg (by decide) ?_
    refine ev_ite (fun _ => ?_) (fun y => absurd rfl y)
    exact p45 0 (by rw [if_neg z])
/-- of the SCHEMA that has to say no -/
theorem q_hears2 {a p beg yes n1 : Int} {node : Nat} {es : List (Int × Int)} {fr : Nat} (hd : 2 ≤ d) (hk : AbK A B Sc T) (h : FrQ k a (node : Int) 14 p beg yes true S) (hA : AkS A B Sc T refs n1 (cs ++ es) fr S) (hm : S.1 546 k = (cs.length : Int)) (hs : S.2.1 500 75 = decide (es = [])) (hk5 : k < 500) (hy : 0 ≤ yes ∧ yes ≤ 1000) (hl : cs.length < 219900) (hn : node < 100) : Ev (fun m => f_X12_hears m d 0 S [(k : Int)]) (fun _ S1 => (∃ y, FrQ k a (node : Int) 15 p beg y false S1) ∧ AkS A B Sc T refs n1 (cs ++ if es = [] then [((node : Int), 14)] else []) fr S1 ∧ FC (fun c j => f1P k c j ∨ csP c j) S S1) := by
  obtain ⟨⟨⟨h1, h2⟩, h3, h4⟩, ⟨h5, h6⟩, h7⟩ := h
  obtain ⟨g1, g2, g3, g4, g5⟩ := hA
  have p82 : ∀ (S2 : GS) (y : Int) (L : List (Int × Int)), FrQ k a (node : Int) 14 p beg y false S2 → AkS A B Sc T refs n1 L fr S2 → FC (fun c j => f1P k c j ∨ csP c j) S S2 → L = cs ++ (if es = [] then [((node : Int), 14)] else []) → Ev (fun m => f_X12_hears m d 82 S2 [(k : Int), 14]) (fun _ S1 => (∃ y, FrQ k a (node : Int) 15 p beg y false S1) ∧ AkS A B Sc T refs n1 (cs ++ if es = [] then [((node : Int), 14)] else []) fr S1 ∧ FC (fun c j => f1P k c j ∨ csP c j) S S1) := by
    intro S2 y L q1 q2 q3 hL
    obtain ⟨⟨⟨e1, e2⟩, e3, e4⟩, ⟨e5, e6⟩, e7⟩ := q1
    refine ev_up (fun n => e_X12_hears_82) ?_
    unfold b_X12_hears_82
    refine ev_gg (by first | omega | (constructor <;> omega)) ?_
    refine ev_gv ?_
    rw [Int.toNat_natCast, e3]
    refine ev_gv ?_
    refine ev_gv ?_
    refine ev_up (fun n => e_X12_hears_92) ?_
    unfold b_X12_hears_92
    refine ev_gg (by decide) ?_
    refine ev_ite (fun _ => ?_) (fun z => absurd (by decide) z)
    have f : FC (f1P k) S2 (gI S2 543 k (14 + 1)) := fc_gI ⟨by decide, by decide, rfl⟩
    refine ev_ret ⟨⟨y, ⟨⟨?_, ?_⟩, ?_, ?_⟩, ⟨?_, ?_⟩, ?_⟩, by rw [← hL]; exact ak_f1 hk q2 f, fc_tr q3 (fc_mono f (fun c j z => Or.inl z))⟩
    · rw [gI_c (by decide)]; exact e1
    · rw [gI_c (by decide)]; exact e2
    · rw [gI_a]; rfl
    · rw [gI_c (by decide)]; exact e4
    · rw [gI_c (by decide)]; exact e5
    · rw [gI_c (by decide)]; exact e6
    · exact e7
  have p45 : ∀ s0 : Int, s0 = (if es = [] then 1 else 0) → Ev (fun m => f_X12_hears m d 45 (gB S 548 k (decide ((0 : Int) = 1))) [(k : Int), 14, s0, yes, (k : Int)]) (fun _ S1 => (∃ y, FrQ k a (node : Int) 15 p beg y false S1) ∧ AkS A B Sc T refs n1 (cs ++ if es = [] then [((node : Int), 14)] else []) fr S1 ∧ FC (fun c j => f1P k c j ∨ csP c j) S S1) := by
    intro s0 hs0
    refine ev_up (fun n => e_X12_hears_45) ?_
    unfold b_X12_hears_45
    refine ev_gv ?_
    refine ev_gg (by first | omega | (constructor <;> omega)) ?_
    refine ev_gv ?_
    rw [Int.toNat_natCast]
    refine ev_gg (by first | omega | (constructor <;> omega)) ?_
    refine ev_gv ?_
    rw [gI_c (show (546 : Nat) ≠ 547 by decide), gB_i, hm]
    refine ev_gv ?_
    have f : FC (fun c j => f1P k c j ∨ csP c j) S (gI (gI (gB S 548 k (decide ((0 : Int) = 1))) 547 k (yes + s0)) 500 79 (cs.length : Int)) := fc_tr (fc_gB (Or.inl ⟨by decide, by decide, rfl⟩)) (fc_tr (fc_gI (Or.inl ⟨by decide, by decide, rfl⟩)) (fc_gI (Or.inr (Or.inl ⟨rfl, rfl⟩))))
    have c2 : CsQ cs (gI (gI (gB S 548 k (decide ((0 : Int) = 1))) 547 k (yes + s0)) 500 79 (cs.length : Int)) := cs_cut (es := es) (cs_fr g3 (fc_tr (fc_gB (P := f1P k) ⟨by decide, by decide, rfl⟩) (fc_gI ⟨by decide, by decide, rfl⟩)) (by omega) (fun j => by omega))
    have fq : FrQ k a (node : Int) 14 p beg (yes + s0) false (gI (gI (gB S 548 k (decide ((0 : Int) = 1))) 547 k (yes + s0)) 500 79 (cs.length : Int)) := by
      refine ⟨⟨⟨?_, ?_⟩, ?_, ?_⟩, ⟨?_, ?_⟩, ?_⟩
      · rw [gI_c (by decide), gI_c (by decide), gB_i]; exact h1
      · rw [gI_c (by decide), gI_c (by decide), gB_i]; exact h2
      · rw [gI_c (by decide), gI_c (by decide), gB_i]; exact h3
      · rw [gI_c (by decide), gI_c (by decide), gB_i]; exact h4
      · rw [gI_c (by decide), gI_c (by decide), gB_i]; exact h5
      · rw [gI_c (by decide), gI_a]
      · rw [gI_b, gI_b, gB_a]; rfl
    have aq : AkS A B Sc T refs n1 cs fr (gI (gI (gB S 548 k (decide ((0 : Int) = 1))) 547 k (yes + s0)) 500 79 (cs.length : Int)) := ⟨ab_fr hk g1 f (fun c j z => z.elim f1_ck (fun y => cs_ck y)), ref_fr g2 f (by omega) (fun j => by omega) (fun j => by omega), c2, (fc_i f (by omega)).trans g4, (fc_i f (by omega)).trans g5⟩
    have s75 : (gI (gI (gB S 548 k (decide ((0 : Int) = 1))) 547 k (yes + s0)) 500 79 (cs.length : Int)).2.1 500 75 = decide (es = []) := by
      rw [gI_b, gI_b, gB_c (by decide)]
      exact hs
    generalize gI (gI (gB S 548 k (decide ((0 : Int) = 1))) 547 k (yes + s0)) 500 79 (cs.length : Int) = S2 at *
    refine ev_up (fun n => e_X12_hears_57) ?_
    unfold b_X12_hears_57
    refine ev_gg (by decide) ?_
    refine ev_ite (fun z => absurd rfl z) (fun _ => ?_)
    refine ev_gv ?_
    rw [s75]
    by_cases z : es = []
    · rw [decide_eq_true z]
      refine ev_gg (by decide) ?_
      refine ev_ite (fun y => absurd y (by decide)) (fun _ => ?_)
      refine ev_gg (by first | omega | (constructor <;> omega)) ?_
      refine ev_gv ?_
      rw [Int.toNat_natCast, fq.1.1.2]
      refine ev_gg (by first | omega | (constructor <;> omega)) ?_
      refine ev_gc (q_complains (d := d - 1) (a := (node : Int)) (w := 14) aq.2.2.1 (by omega) ⟨⟨by omega, by omega⟩, by omega, by omega⟩) (fun _ S3 q3 => ?_)
      obtain ⟨c3, f3⟩ := q3
      refine p82 S3 _ _ (frq_fr fq f3 (fun c _ _ => by omega)) ⟨ab_fr hk aq.1 f3 (fun c j z => cs_ck z), ref_fr aq.2.1 f3 (by omega) (fun j => by omega) (fun j => by omega), c3, (fc_i f3 (by omega)).trans aq.2.2.2.1, (fc_i f3 (by omega)).trans aq.2.2.2.2⟩ (fc_tr f (fc_mono f3 (fun c j z => Or.inr z))) (by rw [if_pos z])
    · rw [decide_eq_false z]
      refine ev_gg (by decide) ?_
      refine ev_ite (fun _ => ?_) (fun y => absurd rfl y)
      exact p82 S2 _ _ fq aq f (by rw [if_neg z, List.append_nil])
  refine ev_up (fun n => e_X12_hears_0) ?_
  unfold b_X12_hears_0
  refine ev_gg (by first | omega | (constructor <;> omega)) ?_
  refine ev_gv ?_
  rw [Int.toNat_natCast]
  refine ev_gv ?_
  rw [gB_i, h3]
  refine ev_gg (by decide) ?_
  refine ev_ite (fun z => absurd z (by decide)) (fun _ => ?_)
  refine ev_ite (fun z => absurd z (by decide)) (fun _ => ?_)
  refine ev_gv ?_
  rw [h6]
  refine ev_gv ?_
  rw [gB_c (show (500 : Nat) ≠ 548 by decide), hs]
  by_cases z : es = []
  · rw [decide_eq_true z]
    refine ev_gg (by decide) ?_
    refine ev_ite (fun y => absurd y (by decide)) (fun _ => ?_)
    exact p45 1 (by rw [if_pos z])
  · rw [decide_eq_false z]
    refine ev_gg (by decide) ?_
    refine ev_ite (fun _ => ?_) (fun y => absurd rfl y)
    exact p45 0 (by rw [if_neg z])
/-- of a ref -/
theorem q_hears3 {a b p beg yes n1 : Int} {x : Int × Int} {fr : Nat} (hk : AbK A B Sc T) (h : FrQ k a b 15 p beg yes true S) (hA : AkS A B Sc T (refs ++ [x]) n1 cs fr S) (hk5 : k < 500) : Ev (fun m => f_X12_hears m d 0 S [(k : Int)]) (fun _ S1 => FrQ k a b 16 p beg yes false S1 ∧ AkS A B Sc T refs n1 cs fr S1 ∧ FC (fun c j => f1P k c j ∨ (c = 500 ∧ j = 76)) S S1) := by
  obtain ⟨⟨⟨h1, h2⟩, h3, h4⟩, ⟨h5, h6⟩, h7⟩ := h
  obtain ⟨g1, g2, g3, g4, g5⟩ := hA
  refine ev_up (fun n => e_X12_hears_0) ?_
  unfold b_X12_hears_0
  refine ev_gg (by first | omega | (constructor <;> omega)) ?_
  refine ev_gv ?_
  rw [Int.toNat_natCast]
  refine ev_gv ?_
  rw [gB_i, h3]
  refine ev_gg (by decide) ?_
  refine ev_ite (fun z => absurd z (by decide)) (fun _ => ?_)
  refine ev_ite (fun _ => ?_) (fun z => absurd (by decide) z)
  refine ev_up (fun n => e_X12_hears_57) ?_
  unfold b_X12_hears_57
  refine ev_gg (by decide) ?_
  refine ev_ite (fun _ => ?_) (fun z => absurd (by decide) z)
  refine ev_up (fun n => e_X12_hears_92) ?_
  unfold b_X12_hears_92
  refine ev_gg (by decide) ?_
  refine ev_ite (fun z => absurd rfl z) (fun _ => ?_)
  refine ev_gv ?_
  rw [gB_i, g2.1]
  refine ev_gv ?_
  refine ev_gv ?_
  refine ev_gg (by first | omega | (constructor <;> omega)) ?_
  refine ev_gv ?_
  rw [Int.toNat_natCast, gI_c (show (543 : Nat) ≠ 500 by decide), gB_i, h3]
  refine ev_gv ?_
  refine ev_gv ?_
  have f : FC (fun c j => f1P k c j ∨ (c = 500 ∧ j = 76)) S (gI (gI (gB S 548 k (decide ((0 : Int) = 1))) 500 76 (((refs ++ [x]).length : Int) - 1)) 543 k (15 + 1)) := fc_tr (fc_gB (Or.inl ⟨by decide, by decide, rfl⟩)) (fc_tr (fc_gI (Or.inr ⟨rfl, rfl⟩)) (fc_gI (Or.inl ⟨by decide, by decide, rfl⟩)))
  refine ev_ret ⟨⟨⟨⟨?_, ?_⟩, ?_, ?_⟩, ⟨?_, ?_⟩, ?_⟩, ⟨ab_fr hk g1 f (fun c j z => z.elim f1_ck (fun y => ak_ck (k := 0) (i5_ak ⟨y.1, by omega⟩))), ⟨?_, fun i hi => ?_⟩, cs_fr g3 f (by omega) (fun j => by omega), (fc_i f (by omega)).trans g4, (fc_i f (by omega)).trans g5⟩, f⟩
  · rw [gI_c (by decide), gI_c (by decide), gB_i]; exact h1
  · rw [gI_c (by decide), gI_c (by decide), gB_i]; exact h2
  · rw [gI_a]; rfl
  · rw [gI_c (by decide), gI_c (by decide), gB_i]; exact h4
  · rw [gI_c (by decide), gI_c (by decide), gB_i]; exact h5
  · rw [gI_c (by decide), gI_c (by decide), gB_i]; exact h6
  · rw [gI_b, gI_b, gB_a]; rfl
  · rw [gI_c (by decide), gI_a, List.length_append, List.length_singleton]
    omega
  · have := g2.2 i (by rw [List.length_append]; omega)
    have e : prA (refs ++ [x]) i = prA refs i := by
      rw [prA_app (by omega), if_pos hi]
    rw [e] at this
    exact ⟨by rw [gI_c (by decide), gI_c (by decide), gB_i]; exact this.1, by rw [gI_c (by decide), gI_c (by decide), gB_i]; exact this.2⟩
end FRM
