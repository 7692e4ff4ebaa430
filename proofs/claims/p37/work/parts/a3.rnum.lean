/-! READING: NUMBERS -/
/-- figures in a row -/
def fgR (F : List Int) : Prop := ∀ x ∈ F, 48 ≤ x ∧ x ≤ 57
theorem fgR_app {F : List Int} {x : Int} (h : fgR F) (hx : fgC x) : fgR (F ++ [x]) := fun y hy => by
  rcases List.mem_append.mp hy with w | w
  · exact h y w
  · simp only [List.mem_cons, List.not_mem_nil, or_false] at w
    rw [w]; exact hx
theorem fgR_lt {F : List Int} (h : fgR F) : ∀ x ∈ F, x < 256 := fun x hx => by have := h x hx; omega
section RN
variable {S S0 : GS} {c2 d b : Nat} {s r : List Int} {how q : Int} {V : List ND}
theorem room434 : g_room 435 = 24 := rfl
theorem gSh434 : gSh 434 := by decide
/-- one more figure -/
theorem rd_fig {F : List Int} (h : RdC c2 s how S0 r b V S) (hs : SrcOK c2 s) (hd : 2 ≤ d) (hF : SV S 434 F) (hf : fgR F) (hr : fgC (hdI r)) : Ev (fun n => f_X6_readFigure n d 0 S []) (fun _ S1 => (if 24 ≤ F.length then FlC c2 s S0 (plI2 s r) S1 ∧ SV S1 434 F else RdC c2 s how S0 r.tail b V S1 ∧ SV S1 434 (F ++ [hdI r])) ∧ FT 434 S S1) := by
  have h' := h
  obtain ⟨h1, h2, h3, h4, h5, h6⟩ := h
  have l := rc_len h1
  have e := sf_le h3
  have k := rd_here (d := d - 1) h' hs (by omega)
  have lF := hF.2.1
  rw [room434] at lF
  by_cases c : 24 ≤ F.length
  · simp only [if_pos c]
    refine ev_up (fun n => e_X6_readFigure_0) ?_
    unfold b_X6_readFigure_0
    repeat' (first
      | with_reducible refine ev_gv ?_
      | with_reducible refine ev_gg ?_ ?_
      | with_reducible refine ev_ite (fun _ => ?_) (fun _ => ?_)
      | refine ev_gcr (s9_length gSh434 hF) ?_
      | omega
      | assumption)
    refine ev_gc (rd_fail (d := d - 1) h' hs (p := S.1 470 7) (by omega)) (fun x S1 q1 => ?_)
    obtain ⟨-, u, v⟩ := q1
    rw [e.2.2.1] at u
    exact ev_ret ⟨⟨u, f4_sv hF v gSh434⟩, ft_4 v⟩
  · simp only [if_neg c]
    refine ev_up (fun n => e_X6_readFigure_0) ?_
    unfold b_X6_readFigure_0
    repeat' (first
      | with_reducible refine ev_gv ?_
      | with_reducible refine ev_gg ?_ ?_
      | with_reducible refine ev_ite (fun _ => ?_) (fun _ => ?_)
      | refine ev_gcr (s9_length gSh434 hF) ?_
      | refine ev_gcr (k) ?_
      | omega
      | assumption)
    refine ev_gc (sx_add gSh434 (sx_rf h1.2.2.2.2 hF) (by omega) (by rw [room434]; omega)) (fun _ S2 s2 => ?_)
    have h2' := rd_sheet hs (Or.inr (Or.inr rfl)) (fgR_lt (fgR_app hf hr)) h' s2
    have tt := rd_place h2' hs (sf_tl h2'.2.2.1 (hdI_ne rfl (by omega)))
    repeat' (first
      | with_reducible refine ev_gv ?_
      | with_reducible refine ev_gg ?_ ?_
      | with_reducible refine ev_ite (fun _ => ?_) (fun _ => ?_)
      | omega
      | assumption)
    exact ev_ret ⟨⟨tt.1, f4_sv s2.1 tt.2 gSh434⟩, ft_tr (ft_sx s2) (ft_4 tt.2)⟩
theorem fl_figs21 {j : Int} (h : FlC c2 s S0 q S) (hs : SrcOK c2 s) (hd : 2 ≤ d) (hj : inr j) : Ev (fun n => f_X6_readFigures n d 21 S [j]) (fun _ S1 => FlC c2 s S0 q S1 ∧ F470 S S1) := by
  have h' := h
  obtain ⟨h1, h2, h3, h4, h5⟩ := h
  have l := rc_len h1
  have g := hs.1
  have hr := atD_s hs (S.1 470 7)
  have hi : inr (atD s (S.1 470 7)) := by constructor <;> omega
  have k := fl_here (d := d - 1) h' hs (by omega)
  have go := fl_goes (d := d - 1) h'
  have fin : Ev (fun _ => some ((0 : Int), S)) (fun _ S1 => FlC c2 s S0 q S1 ∧ F470 S S1) := ev_ret ⟨h', f4_rf⟩
  by_cases hf : fgC (atD s (S.1 470 7))
  · refine ev_up (fun n => e_X6_readFigures_21) ?_
    unfold b_X6_readFigures_21
    repeat' (first
      | with_reducible refine ev_gv ?_
      | with_reducible refine ev_gg ?_ ?_
      | with_reducible refine ev_ite (fun _ => ?_) (fun _ => ?_)
      | refine ev_gcr (k) ?_
      | refine ev_gcr (go) ?_
      | refine ev_gcr (rd_as (x6_isFigure (d := d - 1) hi) (if_pos hf)) ?_
      | omega
      | assumption)
    all_goals exact fin
  · refine ev_up (fun n => e_X6_readFigures_21) ?_
    unfold b_X6_readFigures_21
    repeat' (first
      | with_reducible refine ev_gv ?_
      | with_reducible refine ev_gg ?_ ?_
      | with_reducible refine ev_ite (fun _ => ?_) (fun _ => ?_)
      | refine ev_gcr (k) ?_
      | refine ev_gcr (go) ?_
      | refine ev_gcr (rd_as (x6_isFigure (d := d - 1) hi) (if_neg hf)) ?_
      | omega
      | assumption)
    all_goals exact fin
theorem rd_figs21 (hs : SrcOK c2 s) (hd : 4 ≤ d) : ∀ (r F : List Int) (S : GS) (j : Int), 0 ≤ j → j ≤ F.length → RdC c2 s how S0 r b V S → SV S 434 F → fgR F → Ev (fun n => f_X6_readFigures n d 21 S [j]) (fun _ S1 => RQ (rdF F r) (fun q => FlC c2 s S0 (plI2 s q) S1 ∧ ∃ F1, SV S1 434 F1) (fun z => RdC c2 s how S0 z.2 b V S1 ∧ SV S1 434 z.1 ∧ fgR z.1) ∧ FT 434 S S1) := by
  intro r
  induction r with
  | nil =>
    intro F S j j0 j1 h hF hf
    have h' := h
    obtain ⟨h1, h2, h3, h4, h5, h6⟩ := h
    have lF := hF.2.1
    rw [room434] at lF
    have k := rd_here (d := d - 1) h' hs (by omega)
    rw [show hdI ([] : List Int) = -1 from rfl] at k
    refine ev_up (fun n => e_X6_readFigures_21) ?_
    unfold b_X6_readFigures_21
    repeat' (first
      | with_reducible refine ev_gv ?_
      | with_reducible refine ev_gg ?_ ?_
      | with_reducible refine ev_ite (fun _ => ?_) (fun _ => ?_)
      | refine ev_gcr (k) ?_
      | refine ev_gcr (rd_as (x6_isFigure (d := d - 1) (a := -1) (by decide)) (if_neg (by omega))) ?_
      | omega
      | assumption)
    exact ev_ret ⟨⟨h', hF, hf⟩, fr_rf⟩
  | cons x r ih =>
    intro F S j j0 j1 h hF hf
    have h' := h
    obtain ⟨h1, h2, h3, h4, h5, h6⟩ := h
    have l := rc_len h1
    have e := sf_le h3
    have lF := hF.2.1
    rw [room434] at lF
    simp only [List.length_cons] at e
    have hr := hdI_r hs h3
    have hx : hdI (x :: r) = x := rfl
    rw [hx] at hr
    have hi : inr x := by constructor <;> omega
    have k := rd_here (d := d - 1) h' hs (by omega)
    rw [hx] at k
    have go := rd_goes (d := d - 1) h'
    by_cases c : fgC x
    · have fg := rd_fig (d := d - 1) h' hs (by omega) hF hf c
      by_cases c24 : 24 ≤ F.length
      · have er : rdF F (x :: r) = .inl (x :: r) := by show (if _ then _ else _) = _; rw [if_pos c, if_pos c24]
        rw [er]
        simp only [if_pos c24] at fg
        refine ev_up (fun n => e_X6_readFigures_21) ?_
        unfold b_X6_readFigures_21
        repeat' (first
          | with_reducible refine ev_gv ?_
          | with_reducible refine ev_gg ?_ ?_
          | with_reducible refine ev_ite (fun _ => ?_) (fun _ => ?_)
          | refine ev_gcr (k) ?_
          | refine ev_gcr (rd_as (x6_isFigure (d := d - 1) hi) (if_pos c)) ?_
          | refine ev_gcr (go) ?_
          | omega
          | assumption)
        refine ev_gc fg (fun _ S1 q1 => ?_)
        refine ev_gv ?_
        refine ev_mono (fl_figs21 q1.1.1 hs (by omega) (by constructor <;> omega)) (fun _ S2 q2 => ⟨⟨q2.1, F, f4_sv q1.1.2 q2.2 gSh434⟩, ft_tr q1.2 (ft_4 q2.2)⟩)
      · have er : rdF F (x :: r) = rdF (F ++ [x]) r := by show (if _ then _ else _) = _; rw [if_pos c, if_neg c24]
        rw [er]
        simp only [if_neg c24] at fg
        refine ev_up (fun n => e_X6_readFigures_21) ?_
        unfold b_X6_readFigures_21
        repeat' (first
          | with_reducible refine ev_gv ?_
          | with_reducible refine ev_gg ?_ ?_
          | with_reducible refine ev_ite (fun _ => ?_) (fun _ => ?_)
          | refine ev_gcr (k) ?_
          | refine ev_gcr (rd_as (x6_isFigure (d := d - 1) hi) (if_pos c)) ?_
          | refine ev_gcr (go) ?_
          | omega
          | assumption)
        refine ev_gc fg (fun _ S1 q1 => ?_)
        refine ev_gv ?_
        refine ev_mono (ih _ S1 (j + 1) (by omega) (by simp; omega) q1.1.1 q1.1.2 (fgR_app hf c)) (fun _ S2 q2 => ⟨q2.1, ft_tr q1.2 q2.2⟩)
    · have er : rdF F (x :: r) = .inr (F, x :: r) := if_neg c
      rw [er]
      refine ev_up (fun n => e_X6_readFigures_21) ?_
      unfold b_X6_readFigures_21
      repeat' (first
        | with_reducible refine ev_gv ?_
        | with_reducible refine ev_gg ?_ ?_
        | with_reducible refine ev_ite (fun _ => ?_) (fun _ => ?_)
        | refine ev_gcr (k) ?_
        | refine ev_gcr (rd_as (x6_isFigure (d := d - 1) hi) (if_neg c)) ?_
        | omega
        | assumption)
      exact ev_ret ⟨⟨h', hF, hf⟩, fr_rf⟩
theorem rd_figs {F : List Int} (h : RdC c2 s how S0 r b V S) (hs : SrcOK c2 s) (hd : 4 ≤ d) (hF : SV S 434 F) (hf : fgR F) : Ev (fun n => f_X6_readFigures n d 0 S []) (fun _ S1 => RQ (rdF1 F r) (fun q => FlC c2 s S0 (plI2 s q) S1 ∧ ∃ F1, SV S1 434 F1) (fun z => RdC c2 s how S0 z.2 b V S1 ∧ SV S1 434 z.1 ∧ fgR z.1) ∧ FT 434 S S1) := by
  have h' := h
  obtain ⟨h1, h2, h3, h4, h5, h6⟩ := h
  have e := sf_le h3
  have hr := hdI_r hs h3
  have hi : inr (hdI r) := by constructor <;> omega
  have k := rd_here (d := d - 1) h' hs (by omega)
  unfold rdF1
  by_cases c : fgC (hdI r)
  · simp only [if_pos c]
    have kk := rd_figs21 (d := d) hs hd r F S 0 (by omega) (by omega) h' hF hf
    refine ev_up (fun n => e_X6_readFigures_0) ?_
    unfold b_X6_readFigures_0
    repeat' (first
      | with_reducible refine ev_gv ?_
      | with_reducible refine ev_gg ?_ ?_
      | with_reducible refine ev_ite (fun _ => ?_) (fun _ => ?_)
      | refine ev_gcr (k) ?_
      | refine ev_gcr (rd_as (x6_isFigure (d := d - 1) hi) (if_pos c)) ?_
      | omega
      | assumption)
    all_goals exact kk
  · simp only [if_neg c]
    refine ev_up (fun n => e_X6_readFigures_0) ?_
    unfold b_X6_readFigures_0
    repeat' (first
      | with_reducible refine ev_gv ?_
      | with_reducible refine ev_gg ?_ ?_
      | with_reducible refine ev_ite (fun _ => ?_) (fun _ => ?_)
      | refine ev_gcr (k) ?_
      | refine ev_gcr (rd_as (x6_isFigure (d := d - 1) hi) (if_neg c)) ?_
      | omega
      | assumption)
    refine ev_gc (rd_fail (d := d - 1) h' hs (p := S.1 470 7) (by omega)) (fun x S1 q1 => ?_)
    obtain ⟨-, u, v⟩ := q1
    rw [e.2.2.1] at u
    refine ev_mono (fl_figs21 (j := 0) u hs (by omega) (by decide)) (fun _ S2 q2 => ⟨⟨q2.1, F, f4_sv hF (f4_tr v q2.2) gSh434⟩, ft_4 (f4_tr v q2.2)⟩)
theorem rd_exp48 {g : Int} (h : RdC c2 s how S0 r b V S) (hs : SrcOK c2 s) (hd : 3 ≤ d) (hg : inr g) : Ev (fun n => f_X6_exponent n d 48 S [g]) (fun x S1 => RQ (if fgC (hdI r) then .inr (if g = 0 then exV r else -exV r, exR r) else .inl r : Rs (Int × List Int)) (fun q => FlC c2 s S0 (plI2 s q) S1) (fun z => x = z.1 ∧ RdC c2 s how S0 z.2 b V S1) ∧ F470 S S1) := by
  have h' := h
  obtain ⟨h1, h2, h3, h4, h5, h6⟩ := h
  have e := sf_le h3
  have hr := hdI_r hs h3
  have hi : inr (hdI r) := by constructor <;> omega
  have k := rd_here (d := d - 1) h' hs (by omega)
  by_cases c : fgC (hdI r)
  · have t := rd_place h' hs (sf_tl h3 (hdI_ne rfl (by omega)))
    have r2 := hdI_r hs t.1.2.2.1
    have hi2 : inr (hdI r.tail) := by constructor <;> omega
    have k2 := rd_here (d := d - 1) t.1 hs (by omega)
    have tp : ∀ x, (gI S 470 7 x).1 470 7 = x := fun x => gI_a
    simp only [if_pos c]
    unfold exV exR
    by_cases c3 : fgC (hdI r.tail)
    · simp only [if_pos c3]
      have t2 := rd_place t.1 hs (sf_tl t.1.2.2.1 (hdI_ne rfl (by omega)))
      by_cases g0 : g = 0
      · simp only [if_pos g0]
        refine ev_up (fun n => e_X6_exponent_48) ?_
        unfold b_X6_exponent_48
        repeat' (first
          | with_reducible refine ev_gv ?_
          | with_reducible refine ev_gg ?_ ?_
          | with_reducible refine ev_ite (fun _ => ?_) (fun _ => ?_)
          | refine ev_gcr (k) ?_
          | refine ev_gcr (rd_as (x6_isFigure (d := d - 1) hi) (if_pos c)) ?_
          | refine ev_gcr (k2) ?_
          | refine ev_gcr (rd_as (x6_isFigure (d := d - 1) hi2) (if_pos c3)) ?_
          | omega
          | assumption)
        exact ev_ret ⟨⟨by omega, t2.1⟩, f4_tr t.2 t2.2⟩
      · simp only [if_neg g0]
        refine ev_up (fun n => e_X6_exponent_48) ?_
        unfold b_X6_exponent_48
        repeat' (first
          | with_reducible refine ev_gv ?_
          | with_reducible refine ev_gg ?_ ?_
          | with_reducible refine ev_ite (fun _ => ?_) (fun _ => ?_)
          | refine ev_gcr (k) ?_
          | refine ev_gcr (rd_as (x6_isFigure (d := d - 1) hi) (if_pos c)) ?_
          | refine ev_gcr (k2) ?_
          | refine ev_gcr (rd_as (x6_isFigure (d := d - 1) hi2) (if_pos c3)) ?_
          | omega
          | assumption)
        exact ev_ret ⟨⟨by omega, t2.1⟩, f4_tr t.2 t2.2⟩
    · simp only [if_neg c3]
      by_cases g0 : g = 0
      · simp only [if_pos g0]
        refine ev_up (fun n => e_X6_exponent_48) ?_
        unfold b_X6_exponent_48
        repeat' (first
          | with_reducible refine ev_gv ?_
          | with_reducible refine ev_gg ?_ ?_
          | with_reducible refine ev_ite (fun _ => ?_) (fun _ => ?_)
          | refine ev_gcr (k) ?_
          | refine ev_gcr (rd_as (x6_isFigure (d := d - 1) hi) (if_pos c)) ?_
          | refine ev_gcr (k2) ?_
          | refine ev_gcr (rd_as (x6_isFigure (d := d - 1) hi2) (if_neg c3)) ?_
          | omega
          | assumption)
        exact ev_ret ⟨⟨by omega, t.1⟩, t.2⟩
      · simp only [if_neg g0]
        refine ev_up (fun n => e_X6_exponent_48) ?_
        unfold b_X6_exponent_48
        repeat' (first
          | with_reducible refine ev_gv ?_
          | with_reducible refine ev_gg ?_ ?_
          | with_reducible refine ev_ite (fun _ => ?_) (fun _ => ?_)
          | refine ev_gcr (k) ?_
          | refine ev_gcr (rd_as (x6_isFigure (d := d - 1) hi) (if_pos c)) ?_
          | refine ev_gcr (k2) ?_
          | refine ev_gcr (rd_as (x6_isFigure (d := d - 1) hi2) (if_neg c3)) ?_
          | omega
          | assumption)
        exact ev_ret ⟨⟨by omega, t.1⟩, t.2⟩
  · simp only [if_neg c]
    refine ev_up (fun n => e_X6_exponent_48) ?_
    unfold b_X6_exponent_48
    repeat' (first
      | with_reducible refine ev_gv ?_
      | with_reducible refine ev_gg ?_ ?_
      | with_reducible refine ev_ite (fun _ => ?_) (fun _ => ?_)
      | refine ev_gcr (k) ?_
      | refine ev_gcr (rd_as (x6_isFigure (d := d - 1) hi) (if_neg c)) ?_
      | omega
      | assumption)
    refine ev_gc (rd_fail (d := d - 1) h' hs (p := S.1 470 7) (by omega)) (fun x S1 q1 => ?_)
    obtain ⟨-, u, v⟩ := q1
    rw [e.2.2.1] at u
    exact ev_ret ⟨u, v⟩
theorem rd_exp (h : RdC c2 s how S0 r b V S) (hs : SrcOK c2 s) (hd : 3 ≤ d) (hr0 : r ≠ []) : Ev (fun n => f_X6_exponent n d 0 S []) (fun x S1 => RQ (rdX r.tail) (fun q => FlC c2 s S0 (plI2 s q) S1) (fun z => x = z.1 ∧ RdC c2 s how S0 z.2 b V S1) ∧ F470 S S1) := by
  have t := rd_place h hs (sf_tl h.2.2.1 hr0)
  have k := rd_here (d := d - 1) t.1 hs (by omega)
  have r2 := hdI_r hs t.1.2.2.1
  have hi : inr (hdI r.tail) := by constructor <;> omega
  unfold rdX exS
  generalize r.tail = rt at *
  by_cases c1 : hdI rt = 45
  · have t2 := rd_place t.1 hs (sf_tl t.1.2.2.1 (hdI_ne c1 (by decide)))
    have kk := rd_exp48 (g := 1) t2.1 hs hd (by decide)
    simp only [c1, true_or, if_true, if_neg (show ¬ (1 : Int) = 0 by decide)] at kk ⊢
    have fin := ev_mono kk (fun x S1 z => And.intro z.1 (f4_tr t.2 (f4_tr t2.2 z.2)))
    refine ev_up (fun n => e_X6_exponent_0) ?_
    unfold b_X6_exponent_0
    repeat' (first
      | with_reducible refine ev_gv ?_
      | with_reducible refine ev_gg ?_ ?_
      | with_reducible refine ev_ite (fun _ => ?_) (fun _ => ?_)
      | refine ev_gcr (k) ?_
      | omega
      | assumption)
    refine ev_up (fun n => e_X6_exponent_24) ?_
    unfold b_X6_exponent_24
    repeat' (first
      | with_reducible refine ev_gv ?_
      | with_reducible refine ev_gg ?_ ?_
      | with_reducible refine ev_ite (fun _ => ?_) (fun _ => ?_)
      | omega
      | assumption)
    all_goals exact fin
  · by_cases c2' : hdI rt = 43
    · have t2 := rd_place t.1 hs (sf_tl t.1.2.2.1 (hdI_ne c2' (by decide)))
      have kk := rd_exp48 (g := 0) t2.1 hs hd (by decide)
      simp only [c2', or_true, if_true, if_neg (show ¬ (43 : Int) = 45 by decide)] at kk ⊢
      have fin := ev_mono kk (fun x S1 z => And.intro z.1 (f4_tr t.2 (f4_tr t2.2 z.2)))
      refine ev_up (fun n => e_X6_exponent_0) ?_
      unfold b_X6_exponent_0
      repeat' (first
        | with_reducible refine ev_gv ?_
        | with_reducible refine ev_gg ?_ ?_
        | with_reducible refine ev_ite (fun _ => ?_) (fun _ => ?_)
        | refine ev_gcr (k) ?_
        | omega
        | assumption)
      refine ev_up (fun n => e_X6_exponent_24) ?_
      unfold b_X6_exponent_24
      repeat' (first
        | with_reducible refine ev_gv ?_
        | with_reducible refine ev_gg ?_ ?_
        | with_reducible refine ev_ite (fun _ => ?_) (fun _ => ?_)
        | refine ev_gcr (k) ?_
        | omega
        | assumption)
      all_goals exact fin
    · have kk := rd_exp48 (g := 0) t.1 hs hd (by decide)
      simp only [c1, c2', or_self, if_false, if_true] at kk ⊢
      have fin := ev_mono kk (fun x S1 z => And.intro z.1 (f4_tr t.2 z.2))
      refine ev_up (fun n => e_X6_exponent_0) ?_
      unfold b_X6_exponent_0
      repeat' (first
        | with_reducible refine ev_gv ?_
        | with_reducible refine ev_gg ?_ ?_
        | with_reducible refine ev_ite (fun _ => ?_) (fun _ => ?_)
        | refine ev_gcr (k) ?_
        | omega
        | assumption)
      refine ev_up (fun n => e_X6_exponent_24) ?_
      unfold b_X6_exponent_24
      repeat' (first
        | with_reducible refine ev_gv ?_
        | with_reducible refine ev_gg ?_ ?_
        | with_reducible refine ev_ite (fun _ => ?_) (fun _ => ?_)
        | refine ev_gcr (k) ?_
        | omega
        | assumption)
      all_goals exact fin
theorem exV_r {r : List Int} (h : fgC (hdI r)) : 0 ≤ exV r ∧ exV r ≤ 99 := by
  unfold exV
  split <;> omega
theorem rdX_r {r : List Int} {z : Int × List Int} (h : rdX r = .inr z) : -99 ≤ z.1 ∧ z.1 ≤ 99 := by
  unfold rdX at h
  by_cases c : fgC (hdI (exS r))
  · rw [if_pos c] at h
    have := exV_r c
    cases h
    show -99 ≤ (if hdI r = 45 then -exV (exS r) else exV (exS r)) ∧ (if hdI r = 45 then -exV (exS r) else exV (exS r)) ≤ 99
    split <;> omega
  · rw [if_neg c] at h
    cases h
end RN
