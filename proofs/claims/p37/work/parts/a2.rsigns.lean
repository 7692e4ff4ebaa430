/-! READING: signs -/
theorem hexV_r (x : Int) : -1 ≤ hexV x ∧ hexV x ≤ 15 := by
  unfold hexV
  split
  · omega
  · split
    · omega
    · split <;> omega
theorem esC_r {x : Int} : -1 ≤ esC x ∧ esC x < 256 := by
  unfold esC
  split
  · omega
  · split
    · omega
    · split
      · omega
      · split
        · omega
        · split
          · omega
          · split <;> omega
theorem tl_le (r : List Int) : r.tail.length ≤ r.length := by simp
theorem rdE_r {r : List Int} {z : Int × List Int} {f : Nat} (ho : rdE r = .inr z) (hf : r.length < f) : 0 ≤ z.1 ∧ z.1 < 256 ∧ z.2.length < f := by
  have t1 := tl_le r
  have t2 := tl_le r.tail
  have t3 := tl_le r.tail.tail
  have t4 := tl_le r.tail.tail.tail
  have t5 := tl_le r.tail.tail.tail.tail
  unfold rdE at ho
  by_cases hu : hdI r = 117
  · rw [if_pos hu] at ho
    unfold rdH at ho
    have r1 := hexV_r (hdI r.tail.tail.tail)
    have r2 := hexV_r (hdI r.tail.tail.tail.tail)
    by_cases p1 : hdI r.tail = 48
    · rw [if_neg (by simpa using p1)] at ho
      by_cases p2 : hdI r.tail.tail = 48
      · rw [if_neg (by simpa using p2)] at ho
        by_cases p3 : hexV (hdI r.tail.tail.tail) = -1
        · rw [if_pos p3] at ho; cases ho
        · rw [if_neg p3] at ho
          by_cases p4 : hexV (hdI r.tail.tail.tail.tail) = -1
          · rw [if_pos p4] at ho; cases ho
          · rw [if_neg p4] at ho
            cases ho
            refine ⟨?_, ?_, ?_⟩
            · show 0 ≤ 16 * hexV (hdI r.tail.tail.tail) + hexV (hdI r.tail.tail.tail.tail); omega
            · show 16 * hexV (hdI r.tail.tail.tail) + hexV (hdI r.tail.tail.tail.tail) < 256; omega
            · show r.tail.tail.tail.tail.tail.length < f; omega
      · rw [if_pos p2] at ho; cases ho
    · rw [if_pos p1] at ho; cases ho
  · rw [if_neg hu] at ho
    have r1 := esC_r (x := hdI r)
    by_cases p : esC (hdI r) = -1
    · rw [if_pos p] at ho; cases ho
    · rw [if_neg p] at ho
      cases ho
      refine ⟨?_, r1.2, ?_⟩
      · show 0 ≤ esC (hdI r); omega
      · show r.tail.length < f; omega
section RS
variable {S S0 : GS} {c2 d b : Nat} {s r : List Int} {how q : Int} {V : List ND}
theorem rd_hex (h : RdC c2 s how S0 r b V S) (hs : SrcOK c2 s) (hd : 2 ≤ d) : Ev (fun n => f_X6_hexFigure n d 0 S []) (fun x S1 => (if hexV (hdI r) = -1 then FlC c2 s S0 (plI2 s r) S1 else x = hexV (hdI r) ∧ RdC c2 s how S0 r.tail b V S1) ∧ F470 S S1) := by
  have h' := h
  obtain ⟨h1, h2, h3, h4, h5, h6⟩ := h
  have l := rc_len h1
  have e := sf_le h3
  have k := rd_as (s9_at (d := d - 1) hs.1 h1.2.1 (show inr (S.1 470 7) by constructor <;> omega)) (sf_at h3)
  have g := hs.1
  have hr := hdI_r hs h3
  have hi : inr (hdI r) := by constructor <;> omega
  generalize hx : hdI r = a at *
  have go := rd_goes (d := d - 1) h'
  have step : a ≠ -1 → RdC c2 s how S0 r.tail b V (gI S 470 7 (S.1 470 7 + 1)) ∧ F470 S (gI S 470 7 (S.1 470 7 + 1)) := fun z => rd_place h' hs (sf_tl h3 (hdI_ne hx z))
  by_cases c1 : 48 ≤ a ∧ a ≤ 57
  · have ev : hexV a = a - 48 := if_pos c1
    simp only [ev, if_neg (show ¬ a - 48 = -1 by omega)]
    have t := step (by omega)
    refine ev_up (fun n => e_X6_hexFigure_0) ?_
    unfold b_X6_hexFigure_0
    rw [h1.1]
    repeat' (first
      | with_reducible refine ev_gv ?_
      | with_reducible refine ev_gg ?_ ?_
      | with_reducible refine ev_ite (fun _ => ?_) (fun _ => ?_)
      | refine ev_gcr (k) ?_
      | refine ev_gcr (go) ?_
      | refine ev_gcr (rd_as (x6_isFigure (d := d - 1) hi) (if_pos c1)) ?_
      | omega
      | assumption)
    exact ev_ret ⟨⟨rfl, t.1⟩, t.2⟩
  by_cases c2' : 97 ≤ a ∧ a ≤ 102
  · have ev : hexV a = a - 87 := by unfold hexV; rw [if_neg c1, if_pos c2']
    simp only [ev, if_neg (show ¬ a - 87 = -1 by omega)]
    have t := step (by omega)
    refine ev_up (fun n => e_X6_hexFigure_0) ?_
    unfold b_X6_hexFigure_0
    rw [h1.1]
    repeat' (first
      | with_reducible refine ev_gv ?_
      | with_reducible refine ev_gg ?_ ?_
      | with_reducible refine ev_ite (fun _ => ?_) (fun _ => ?_)
      | refine ev_gcr (k) ?_
      | refine ev_gcr (go) ?_
      | refine ev_gcr (rd_as (x6_isFigure (d := d - 1) hi) (if_neg c1)) ?_
      | omega
      | assumption)
    refine ev_up (fun n => e_X6_hexFigure_41) ?_
    unfold b_X6_hexFigure_41
    repeat' (first
      | with_reducible refine ev_gv ?_
      | with_reducible refine ev_gg ?_ ?_
      | with_reducible refine ev_ite (fun _ => ?_) (fun _ => ?_)
      | refine ev_gcr (go) ?_
      | omega
      | assumption)
    refine ev_up (fun n => e_X6_hexFigure_72) ?_
    unfold b_X6_hexFigure_72
    repeat' (first
      | with_reducible refine ev_gv ?_
      | with_reducible refine ev_gg ?_ ?_
      | with_reducible refine ev_ite (fun _ => ?_) (fun _ => ?_)
      | omega
      | assumption)
    exact ev_ret ⟨⟨by omega, t.1⟩, t.2⟩
  by_cases c3 : 65 ≤ a ∧ a ≤ 70
  · have ev : hexV a = a - 55 := by unfold hexV; rw [if_neg c1, if_neg c2', if_pos c3]
    simp only [ev, if_neg (show ¬ a - 55 = -1 by omega)]
    have t := step (by omega)
    refine ev_up (fun n => e_X6_hexFigure_0) ?_
    unfold b_X6_hexFigure_0
    rw [h1.1]
    repeat' (first
      | with_reducible refine ev_gv ?_
      | with_reducible refine ev_gg ?_ ?_
      | with_reducible refine ev_ite (fun _ => ?_) (fun _ => ?_)
      | refine ev_gcr (k) ?_
      | refine ev_gcr (go) ?_
      | refine ev_gcr (rd_as (x6_isFigure (d := d - 1) hi) (if_neg c1)) ?_
      | omega
      | assumption)
    refine ev_up (fun n => e_X6_hexFigure_41) ?_
    unfold b_X6_hexFigure_41
    repeat' (first
      | with_reducible refine ev_gv ?_
      | with_reducible refine ev_gg ?_ ?_
      | with_reducible refine ev_ite (fun _ => ?_) (fun _ => ?_)
      | refine ev_gcr (go) ?_
      | omega
      | assumption)
    refine ev_up (fun n => e_X6_hexFigure_60) ?_
    unfold b_X6_hexFigure_60
    repeat' (first
      | with_reducible refine ev_gv ?_
      | with_reducible refine ev_gg ?_ ?_
      | with_reducible refine ev_ite (fun _ => ?_) (fun _ => ?_)
      | omega
      | assumption)
    refine ev_up (fun n => e_X6_hexFigure_72) ?_
    unfold b_X6_hexFigure_72
    repeat' (first
      | with_reducible refine ev_gv ?_
      | with_reducible refine ev_gg ?_ ?_
      | with_reducible refine ev_ite (fun _ => ?_) (fun _ => ?_)
      | omega
      | assumption)
    exact ev_ret ⟨⟨by omega, t.1⟩, t.2⟩
  · have ev : hexV a = -1 := by unfold hexV; rw [if_neg c1, if_neg c2', if_neg c3]
    simp only [ev, if_true]
    have fl := rd_fail (d := d - 1) h' hs (p := S.1 470 7) (by omega)
    have fin : Ev (fun n => gc (f_X6_fail n (d - 1) 0 S [S.1 470 7]) fun _ S_10 => some (0, S_10)) (fun x S1 => FlC c2 s S0 (plI2 s r) S1 ∧ F470 S S1) := by
      refine ev_gc fl (fun x S1 q1 => ?_)
      obtain ⟨-, u, v⟩ := q1
      rw [e.2.2.1] at u
      exact ev_ret ⟨u, v⟩
    refine ev_up (fun n => e_X6_hexFigure_0) ?_
    unfold b_X6_hexFigure_0
    rw [h1.1]
    repeat' (first
      | with_reducible refine ev_gv ?_
      | with_reducible refine ev_gg ?_ ?_
      | with_reducible refine ev_ite (fun _ => ?_) (fun _ => ?_)
      | refine ev_gcr (k) ?_
      | refine ev_gcr (go) ?_
      | refine ev_gcr (rd_as (x6_isFigure (d := d - 1) hi) (if_neg c1)) ?_
      | omega
      | assumption)
    refine ev_up (fun n => e_X6_hexFigure_41) ?_
    unfold b_X6_hexFigure_41
    repeat' (first
      | with_reducible refine ev_gv ?_
      | with_reducible refine ev_gg ?_ ?_
      | with_reducible refine ev_ite (fun _ => ?_) (fun _ => ?_)
      | refine ev_gcr (go) ?_
      | omega
      | assumption)
    all_goals
      refine ev_up (fun n => e_X6_hexFigure_60) ?_
      unfold b_X6_hexFigure_60
    all_goals
      repeat' (first
        | with_reducible refine ev_gv ?_
        | with_reducible refine ev_gg ?_ ?_
        | with_reducible refine ev_ite (fun _ => ?_) (fun _ => ?_)
        | omega
        | assumption)
    all_goals exact fin
theorem fl_hex (h : FlC c2 s S0 q S) (hs : SrcOK c2 s) (hd : 2 ≤ d) : Ev (fun n => f_X6_hexFigure n d 0 S []) (fun _ S1 => FlC c2 s S0 q S1 ∧ F470 S S1) := by
  have h' := h
  obtain ⟨h1, h2, h3, h4, h5⟩ := h
  have l := rc_len h1
  have k := s9_at (d := d - 1) hs.1 h1.2.1 (show inr (S.1 470 7) by constructor <;> omega)
  have g := hs.1
  have hr := atD_s hs (S.1 470 7)
  have go := fl_goes (d := d - 1) h'
  refine ev_up (fun n => e_X6_hexFigure_0) ?_
  unfold b_X6_hexFigure_0
  rw [h1.1]
  repeat' (first
    | with_reducible refine ev_gv ?_
    | with_reducible refine ev_gg ?_ ?_
    | with_reducible refine ev_ite (fun _ => ?_) (fun _ => ?_)
    | refine ev_gcr (k) ?_
    | refine ev_gcr (go) ?_
    | omega
    | assumption)
  refine ev_up (fun n => e_X6_hexFigure_41) ?_
  unfold b_X6_hexFigure_41
  repeat' (first
    | with_reducible refine ev_gv ?_
    | with_reducible refine ev_gg ?_ ?_
    | with_reducible refine ev_ite (fun _ => ?_) (fun _ => ?_)
    | refine ev_gcr (go) ?_
    | omega
    | assumption)
  refine ev_gc (fl_fail (d := d - 1) h') (fun x S1 q1 => ?_)
  exact ev_ret q1.2
theorem rd_esc (h : RdC c2 s how S0 r b V S) (hs : SrcOK c2 s) (hd : 4 ≤ d) : Ev (fun n => f_X6_escaped n d 0 S []) (fun x S1 => RQ (rdE r) (fun q => FlC c2 s S0 (plI2 s q) S1) (fun z => x = z.1 ∧ RdC c2 s how S0 z.2 b V S1) ∧ F470 S S1) := by
  have h' := h
  obtain ⟨h1, h2, h3, h4, h5, h6⟩ := h
  have l := rc_len h1
  have e := sf_le h3
  have g := hs.1
  have hr := hdI_r hs h3
  have k := rd_here (d := d - 1) h' hs (by omega)
  have hi : inr (hdI r) := by constructor <;> omega
  have tp : ∀ x, (gI S 470 7 x).1 470 7 = x := fun x => gI_a
  by_cases hu : hdI r = 117
  · have t := rd_place h' hs (sf_tl h3 (hdI_ne hu (by decide)))
    unfold rdE
    rw [if_pos hu]
    rw [hu] at k
    -- in a fault all goes through
    have tail1 : ∀ {q : Int} {S2 : GS}, FlC c2 s S0 q S2 → F470 S S2 → Ev (fun n => gc (f_X6_hexFigure n (d - 1) 0 S2 []) fun x27 S_28 => gv (16 * x27) fun x30 => gc (f_X6_hexFigure n (d - 1) 0 S_28 []) fun x32 S_33 => gv (x30 + x32) fun x35 => some (x35, S_33)) (fun _ S1 => FlC c2 s S0 q S1 ∧ F470 S S1) := by
      intro q S2 f2 m2
      refine ev_gc (fl_hex (d := d - 1) f2 hs (by omega)) (fun x S3 q3 => ?_)
      refine ev_gv ?_
      refine ev_gc (fl_hex (d := d - 1) q3.1 hs (by omega)) (fun y S4 q4 => ?_)
      refine ev_gv ?_
      exact ev_ret ⟨q4.1, f4_tr m2 (f4_tr q3.2 q4.2)⟩
    refine ev_up (fun n => e_X6_escaped_0) ?_
    unfold b_X6_escaped_0
    repeat' (first
      | with_reducible refine ev_gv ?_
      | with_reducible refine ev_gg ?_ ?_
      | with_reducible refine ev_ite (fun _ => ?_) (fun _ => ?_)
      | refine ev_gcr (k) ?_
      | omega
      | assumption)
    refine ev_gc (rd_pass (d := d - 1) t.1 hs (by omega) (c := 48) (by decide)) (fun _ S2 q2 => ?_)
    by_cases p1 : hdI r.tail = 48
    · rw [if_pos p1] at q2
      refine ev_gc (rd_pass (d := d - 1) q2.1 hs (by omega) (c := 48) (by decide)) (fun _ S3 q3 => ?_)
      by_cases p2 : hdI r.tail.tail = 48
      · rw [if_pos p2] at q3
        refine ev_gc (rd_hex (d := d - 1) q3.1 hs (by omega)) (fun x4 S4 q4 => ?_)
        refine ev_gv ?_
        by_cases p3 : hexV (hdI r.tail.tail.tail) = -1
        · rw [if_pos p3] at q4
          refine ev_gc (fl_hex (d := d - 1) q4.1 hs (by omega)) (fun x5 S5 q5 => ?_)
          refine ev_gv ?_
          unfold rdH
          rw [if_neg (by simpa using p1), if_neg (by simpa using p2), if_pos p3]
          exact ev_ret ⟨q5.1, f4_tr t.2 (f4_tr q2.2 (f4_tr q3.2 (f4_tr q4.2 q5.2)))⟩
        · rw [if_neg p3] at q4
          refine ev_gc (rd_hex (d := d - 1) q4.1.2 hs (by omega)) (fun x5 S5 q5 => ?_)
          refine ev_gv ?_
          unfold rdH
          rw [if_neg (by simpa using p1), if_neg (by simpa using p2), if_neg p3]
          by_cases p4 : hexV (hdI r.tail.tail.tail.tail) = -1
          · rw [if_pos p4] at q5 ⊢
            exact ev_ret ⟨q5.1, f4_tr t.2 (f4_tr q2.2 (f4_tr q3.2 (f4_tr q4.2 q5.2)))⟩
          · rw [if_neg p4] at q5 ⊢
            refine ev_ret ⟨⟨?_, q5.1.2⟩, f4_tr t.2 (f4_tr q2.2 (f4_tr q3.2 (f4_tr q4.2 q5.2)))⟩
            rw [q5.1.1, q4.1.1]
      · rw [if_neg p2] at q3
        unfold rdH
        rw [if_neg (by simpa using p1), if_pos p2]
        exact tail1 q3.1 (f4_tr t.2 (f4_tr q2.2 q3.2))
    · rw [if_neg p1] at q2
      refine ev_gc (fl_pass (d := d - 1) q2.1 hs (by omega) (c := 48) (by decide)) (fun _ S3 q3 => ?_)
      unfold rdH
      rw [if_pos p1]
      exact tail1 q3.1 (f4_tr t.2 (f4_tr q2.2 q3.2))
  · unfold rdE
    rw [if_neg hu]
    by_cases hx : esC (hdI r) = -1
    · rw [if_pos hx]
      have n1 : hdI r ≠ 34 ∧ hdI r ≠ 47 ∧ hdI r ≠ 92 ∧ hdI r ≠ 98 ∧ hdI r ≠ 102 ∧ hdI r ≠ 110 ∧ hdI r ≠ 114 ∧ hdI r ≠ 116 := by
        unfold esC at hx
        by_cases z1 : hdI r = 34 ∨ hdI r = 47 ∨ hdI r = 92
        · rw [if_pos z1] at hx; omega
        rw [if_neg z1] at hx
        by_cases z2 : hdI r = 98
        · rw [if_pos z2] at hx; omega
        rw [if_neg z2] at hx
        by_cases z3 : hdI r = 102
        · rw [if_pos z3] at hx; omega
        rw [if_neg z3] at hx
        by_cases z4 : hdI r = 110
        · rw [if_pos z4] at hx; omega
        rw [if_neg z4] at hx
        by_cases z5 : hdI r = 114
        · rw [if_pos z5] at hx; omega
        rw [if_neg z5] at hx
        by_cases z6 : hdI r = 116
        · rw [if_pos z6] at hx; omega
        omega
      have c := rc_470 hs h1 (k := 7) (x := S.1 470 7 + 1) (by constructor <;> omega)
      have c8 := rc_470 hs c.1 (k := 8) (x := S.1 470 7) (by constructor <;> omega)
      have fl : Ev (fun n => f_X6_fail n (d - 1) 0 (gI S 470 7 (S.1 470 7 + 1)) [S.1 470 7 + 1 - 1]) (fun x S1 => FlC c2 s S0 (plI2 s r) S1 ∧ F470 S S1) := by
        have e8 : (gI S 470 7 (S.1 470 7 + 1)).1 470 8 = -1 := by rw [gI_k (by decide)]; exact h4
        have e9 : S.1 470 7 + 1 - 1 = S.1 470 7 := by omega
        rw [e9]
        refine ev_up (fun n => e_X6_fail_0) ?_
        unfold b_X6_fail_0
        rw [e8]
        repeat' (first
          | with_reducible refine ev_gv ?_
          | with_reducible refine ev_gg ?_ ?_
          | with_reducible refine ev_ite (fun _ => ?_) (fun _ => ?_)
          | omega
          | assumption)
        refine ev_ret ⟨⟨c8.1, ?_, ?_, ?_, _, to_470 (to_470 h6)⟩, f4_tr c.2 c8.2⟩
        · rw [gI_k (by decide), gI_a]; omega
        · rw [gI_a]; exact e.2.2.1
        · unfold plI2; omega
      refine ev_up (fun n => e_X6_escaped_0) ?_
      unfold b_X6_escaped_0
      repeat' (first
        | with_reducible refine ev_gv ?_
        | with_reducible refine ev_gg ?_ ?_
        | with_reducible refine ev_ite (fun _ => ?_) (fun _ => ?_)
        | refine ev_gcr (k) ?_
        | omega
        | assumption)
      rw [tp]
      repeat' (first
        | with_reducible refine ev_gv ?_
        | with_reducible refine ev_gg ?_ ?_
        | with_reducible refine ev_ite (fun _ => ?_) (fun _ => ?_)
        | omega
        | assumption)
      refine ev_gc fl (fun x S1 q1 => ?_)
      exact ev_ret q1
    · rw [if_neg hx]
      have t := rd_place h' hs (sf_tl h3 (fun z => hx (by rw [z]; rfl)))
      unfold esC at hx ⊢
      generalize hdI r = a at *
      by_cases z1 : a = 34 ∨ a = 47 ∨ a = 92
      · simp only [if_pos z1]
        refine ev_up (fun n => e_X6_escaped_0) ?_
        unfold b_X6_escaped_0
        repeat' (first
          | with_reducible refine ev_gv ?_
          | with_reducible refine ev_gg ?_ ?_
          | with_reducible refine ev_ite (fun _ => ?_) (fun _ => ?_)
          | refine ev_gcr (k) ?_
          | omega
          | assumption)
        all_goals exact ev_ret ⟨⟨rfl, t.1⟩, t.2⟩
      simp only [if_neg z1] at hx ⊢
      by_cases z2 : a = 98
      · simp only [if_pos z2]
        refine ev_up (fun n => e_X6_escaped_0) ?_
        unfold b_X6_escaped_0
        repeat' (first
          | with_reducible refine ev_gv ?_
          | with_reducible refine ev_gg ?_ ?_
          | with_reducible refine ev_ite (fun _ => ?_) (fun _ => ?_)
          | refine ev_gcr (k) ?_
          | omega
          | assumption)
        all_goals exact ev_ret ⟨⟨rfl, t.1⟩, t.2⟩
      simp only [if_neg z2] at hx ⊢
      by_cases z3 : a = 102
      · simp only [if_pos z3]
        refine ev_up (fun n => e_X6_escaped_0) ?_
        unfold b_X6_escaped_0
        repeat' (first
          | with_reducible refine ev_gv ?_
          | with_reducible refine ev_gg ?_ ?_
          | with_reducible refine ev_ite (fun _ => ?_) (fun _ => ?_)
          | refine ev_gcr (k) ?_
          | omega
          | assumption)
        all_goals exact ev_ret ⟨⟨rfl, t.1⟩, t.2⟩
      simp only [if_neg z3] at hx ⊢
      by_cases z4 : a = 110
      · simp only [if_pos z4]
        refine ev_up (fun n => e_X6_escaped_0) ?_
        unfold b_X6_escaped_0
        repeat' (first
          | with_reducible refine ev_gv ?_
          | with_reducible refine ev_gg ?_ ?_
          | with_reducible refine ev_ite (fun _ => ?_) (fun _ => ?_)
          | refine ev_gcr (k) ?_
          | omega
          | assumption)
        all_goals exact ev_ret ⟨⟨rfl, t.1⟩, t.2⟩
      simp only [if_neg z4] at hx ⊢
      by_cases z5 : a = 114
      · simp only [if_pos z5]
        refine ev_up (fun n => e_X6_escaped_0) ?_
        unfold b_X6_escaped_0
        repeat' (first
          | with_reducible refine ev_gv ?_
          | with_reducible refine ev_gg ?_ ?_
          | with_reducible refine ev_ite (fun _ => ?_) (fun _ => ?_)
          | refine ev_gcr (k) ?_
          | omega
          | assumption)
        all_goals exact ev_ret ⟨⟨rfl, t.1⟩, t.2⟩
      simp only [if_neg z5] at hx ⊢
      by_cases z6 : a = 116
      · simp only [if_pos z6]
        refine ev_up (fun n => e_X6_escaped_0) ?_
        unfold b_X6_escaped_0
        repeat' (first
          | with_reducible refine ev_gv ?_
          | with_reducible refine ev_gg ?_ ?_
          | with_reducible refine ev_ite (fun _ => ?_) (fun _ => ?_)
          | refine ev_gcr (k) ?_
          | omega
          | assumption)
        all_goals exact ev_ret ⟨⟨rfl, t.1⟩, t.2⟩
      simp only [if_neg z6] at hx
      exact absurd trivial hx
abbrev FT (t : Nat) (S S1 : GS) : Prop := Fr (fun k => k = 470 ∨ shM t k) S S1
theorem ft_4 {t : Nat} {S1 : GS} (h : F470 S S1) : FT t S S1 := fr_mono h (fun _ z => Or.inl z)
theorem ft_tr {t : Nat} {S1 S2 : GS} (h : FT t S S1) (g : FT t S1 S2) : FT t S S2 := fr_tr h g
theorem ft_sx {t : Nat} {l : List Int} {S1 : GS} (h : SX t S l S1) : FT t S S1 := fr_mono h.2.1 (fun _ z => Or.inr z)
/-- the sheets that the Reader writes on -/
abbrev gRS (t : Nat) : Prop := t = 430 ∨ t = 432 ∨ t = 434
theorem rc_sheet {t : Nat} {l : List Int} {S1 : GS} (hs : SrcOK c2 s) (ht : gRS t) (hl : ∀ x ∈ l, x < 256) (h : RC c2 s S0 S) (h1 : SX t S l S1) : RC c2 s S0 S1 := by
  obtain ⟨a1, a2, ⟨ky, a3, a4⟩, a5, a6⟩ := h
  have g := hs.1
  have n1 := hs.2.1
  have n2 := hs.2.2.1
  have n3 := hs.2.2.2.1
  refine ⟨by rw [(h1.2.1 470 (by unfold shM; omega)).2.2]; exact a1, sv_fr a2 h1.2.1 (by unfold shM; omega) (by unfold shM; omega), ?_, fr_tr a5 (fr_mono h1.2.1 (fun k hk => Or.inr (Or.inl (by unfold shM at hk; omega)))), h1.2.2⟩
  by_cases z : t = 430
  · subst z; exact ⟨l, h1.1, hl⟩
  · exact ⟨ky, sv_fr a3 h1.2.1 (by unfold shM; omega) (by unfold shM; omega), a4⟩
theorem rd_sheet {t : Nat} {l : List Int} {S1 : GS} (hs : SrcOK c2 s) (ht : gRS t) (hl : ∀ x ∈ l, x < 256) (h : RdC c2 s how S0 r b V S) (h1 : SX t S l S1) : RdC c2 s how S0 r b V S1 := by
  obtain ⟨a1, a2, a3, a4, a5, a6⟩ := h
  have e := (h1.2.1 470 (by unfold shM; omega)).1
  refine ⟨rc_sheet hs ht hl a1 h1, by rw [e]; exact a2, by rw [e]; exact a3, by rw [e]; exact a4, by rw [e]; exact a5, to_fr a6 h1.2.1 (fun k z1 z2 => by unfold shM; omega)⟩
theorem fl_rs12 {t m : Nat} {j : Int} (h : FlC c2 s S0 q S) (hs : SrcOK c2 s) (hd : 2 ≤ d) (hj : inr j) (hm : inr (m : Int)) : Ev (fun n => f_X6_readSigns n d 12 S [((t : Nat) : Int), (m : Int), j]) (fun _ S1 => FlC c2 s S0 q S1 ∧ F470 S S1) := by
  have h' := h
  obtain ⟨h1, h2, h3, h4, h5⟩ := h
  have l := rc_len h1
  have g := hs.1
  have hr := atD_s hs (S.1 470 7)
  have k := fl_here (d := d - 1) h' hs (by omega)
  have go := fl_goes (d := d - 1) h'
  have fin : Ev (fun n => gc (f_X6_pass n (d - 1) 0 S [34]) fun _ S_14 => some (0, S_14)) (fun _ S1 => FlC c2 s S0 q S1 ∧ F470 S S1) := by
    refine ev_gc (fl_pass (d := d - 1) h' hs (by omega) (c := 34) (by decide)) (fun _ S1 q1 => ?_)
    exact ev_ret q1
  refine ev_up (fun n => e_X6_readSigns_12) ?_
  unfold b_X6_readSigns_12
  repeat' (first
    | with_reducible refine ev_gv ?_
    | with_reducible refine ev_gg ?_ ?_
    | with_reducible refine ev_ite (fun _ => ?_) (fun _ => ?_)
    | refine ev_gcr (k) ?_
    | refine ev_gcr (go) ?_
    | omega
    | assumption)
  all_goals exact fin
theorem rs_12 {t m : Nat} (hs : SrcOK c2 s) (ht : gRS t) (hm : m ≤ g_room (t + 1)) (hd : 6 ≤ d) : ∀ (f : Nat) (r a : List Int) (S : GS), r.length < f → RdC c2 s how S0 r b V S → SV S t a → (∀ x ∈ a, x < 256) → a.length ≤ m → Ev (fun n => f_X6_readSigns n d 12 S [((t : Nat) : Int), (m : Int), ((a.length : Nat) : Int)]) (fun _ S1 => RQ (rdT f m a r) (fun q => FlC c2 s S0 (plI2 s q) S1 ∧ ∃ l, SV S1 t l) (fun z => RdC c2 s how S0 z.2 b V S1 ∧ SV S1 t z.1 ∧ (∀ x ∈ z.1, x < 256) ∧ z.1.length ≤ m) ∧ FT t S S1) := by
  have hg : gSh t := by omega
  have r4 := g_room_le (t + 1)
  intro f
  induction f with
  | zero => intros; omega
  | succ f ih =>
    intro r a S hf h ha ha2 hl
    have h' := h
    obtain ⟨h1, h2, h3, h4, h5, h6⟩ := h
    have l := rc_len h1
    have e := sf_le h3
    have g := hs.1
    have hr := hdI_r hs h3
    have k := rd_here (d := d - 1) h' hs (by omega)
    have go := rd_goes (d := d - 1) h'
    have rl : r ≠ [] → r.tail.length < f := fun z => by
      cases r with
      | nil => exact absurd rfl z
      | cons x r => simp only [List.length_cons] at hf; simp; omega
    -- a fault, and what is left to do
    have la : ∀ x : Int, (((a ++ [x]).length : Nat) : Int) = (a.length : Int) + 1 := fun x => by simp
    have bad : Ev (fun n => f_X6_readSigns n d 50 S [((t : Nat) : Int), (m : Int), ((a.length : Nat) : Int)]) (fun _ S1 => (FlC c2 s S0 (plI2 s r) S1 ∧ ∃ l, SV S1 t l) ∧ FT t S S1) := by
      refine ev_up (fun n => e_X6_readSigns_50) ?_
      unfold b_X6_readSigns_50
      repeat' (first
        | with_reducible refine ev_gv ?_
        | with_reducible refine ev_gg ?_ ?_
        | with_reducible refine ev_ite (fun _ => ?_) (fun _ => ?_)
        | omega
        | assumption)
      refine ev_gc (rd_fail (d := d - 1) h' hs (p := S.1 470 7) (by omega)) (fun x S1 q1 => ?_)
      obtain ⟨-, u, v⟩ := q1
      rw [e.2.2.1] at u
      refine ev_gv ?_
      refine ev_mono (fl_rs12 u hs (by omega) (by constructor <;> omega) (by constructor <;> omega)) (fun x S2 q2 => ⟨⟨q2.1, a, ?_⟩, ft_4 (f4_tr v q2.2)⟩)
      exact f4_sv ha (f4_tr v q2.2) hg
    by_cases r0 : r = []
    · have er : rdT (f + 1) m a r = .inl [] := if_pos r0
      rw [er]
      subst r0
      have hz : hdI ([] : List Int) = -1 := rfl
      refine ev_up (fun n => e_X6_readSigns_12) ?_
      unfold b_X6_readSigns_12
      repeat' (first
        | with_reducible refine ev_gv ?_
        | with_reducible refine ev_gg ?_ ?_
        | with_reducible refine ev_ite (fun _ => ?_) (fun _ => ?_)
        | refine ev_gcr (k) ?_
        | refine ev_gcr (go) ?_
        | refine ev_gcr (s9_length hg ha) ?_
        | omega
        | assumption)
      all_goals exact bad
    by_cases r1 : hdI r = 34
    · have er : rdT (f + 1) m a r = .inr (a, r.tail) := by show (if _ then _ else _) = _; rw [if_neg r0, if_pos r1]
      rw [er]
      refine ev_up (fun n => e_X6_readSigns_12) ?_
      unfold b_X6_readSigns_12
      repeat' (first
        | with_reducible refine ev_gv ?_
        | with_reducible refine ev_gg ?_ ?_
        | with_reducible refine ev_ite (fun _ => ?_) (fun _ => ?_)
        | refine ev_gcr (k) ?_
        | omega
        | assumption)
      refine ev_gc (rd_pass (d := d - 1) h' hs (by omega) (c := 34) (by decide)) (fun _ S1 q1 => ?_)
      rw [if_pos r1] at q1
      exact ev_ret ⟨⟨q1.1, f4_sv ha q1.2 hg, ha2, hl⟩, ft_4 q1.2⟩
    by_cases r2 : m ≤ a.length ∨ hdI r < 32
    · have er : rdT (f + 1) m a r = .inl r := by show (if _ then _ else _) = _; rw [if_neg r0, if_neg r1, if_pos r2]
      rw [er]
      refine ev_up (fun n => e_X6_readSigns_12) ?_
      unfold b_X6_readSigns_12
      repeat' (first
        | with_reducible refine ev_gv ?_
        | with_reducible refine ev_gg ?_ ?_
        | with_reducible refine ev_ite (fun _ => ?_) (fun _ => ?_)
        | refine ev_gcr (k) ?_
        | refine ev_gcr (go) ?_
        | refine ev_gcr (s9_length hg ha) ?_
        | omega
        | assumption)
      all_goals exact bad
    by_cases r3 : hdI r = 92
    · have er : rdT (f + 1) m a r = bd (rdE r.tail) (fun z => rdT f m (a ++ [z.1]) z.2) := by show (if _ then _ else _) = _; rw [if_neg r0, if_neg r1, if_neg r2, if_pos r3]
      rw [er]
      have tt := rd_place h' hs (sf_tl h3 r0)
      have es := rd_esc (d := d - 1) tt.1 hs (by omega)
      refine ev_up (fun n => e_X6_readSigns_12) ?_
      unfold b_X6_readSigns_12
      repeat' (first
        | with_reducible refine ev_gv ?_
        | with_reducible refine ev_gg ?_ ?_
        | with_reducible refine ev_ite (fun _ => ?_) (fun _ => ?_)
        | refine ev_gcr (k) ?_
        | refine ev_gcr (go) ?_
        | refine ev_gcr (s9_length hg ha) ?_
        | omega
        | assumption)
      refine ev_gc es (fun x S1 q1 => ?_)
      have m1 : F470 S S1 := f4_tr tt.2 q1.2
      cases ho : rdE r.tail with
      | inl q =>
        rw [ho] at q1
        have q1' : FlC c2 s S0 (plI2 s q) S1 := q1.1
        repeat' (first
          | with_reducible refine ev_gv ?_
          | with_reducible refine ev_gg ?_ ?_
          | with_reducible refine ev_ite (fun _ => ?_) (fun _ => ?_)
          | refine ev_gcr (fl_goes q1') ?_
          | omega
          | assumption)
        refine ev_mono (fl_rs12 q1' hs (by omega) (by constructor <;> omega) (by constructor <;> omega)) (fun x S2 q2 => ⟨⟨q2.1, a, f4_sv ha (f4_tr m1 q2.2) hg⟩, ft_4 (f4_tr m1 q2.2)⟩)
      | inr z =>
        rw [ho] at q1
        obtain ⟨⟨e1, q1'⟩, -⟩ := q1
        have zr : 0 ≤ z.1 ∧ z.1 < 256 ∧ z.2.length < f := rdE_r ho (rl r0)
        have ha1 := f4_sv ha m1 hg
        have gd : Good S1 := q1'.1.2.2.2.2
        repeat' (first
          | with_reducible refine ev_gv ?_
          | with_reducible refine ev_gg ?_ ?_
          | with_reducible refine ev_ite (fun _ => ?_) (fun _ => ?_)
          | refine ev_gcr (rd_goes q1') ?_
          | omega
          | assumption)
        rw [e1]
        refine ev_gc (sx_add hg (sx_rf gd ha1) (by omega) (by omega)) (fun _ S2 s2 => ?_)
        have a2 : ∀ x ∈ a ++ [z.1], x < 256 := fun x hx => by
          rcases List.mem_append.mp hx with w | w
          · exact ha2 x w
          · simp only [List.mem_cons, List.not_mem_nil, or_false] at w; omega
        have kk := ih z.2 (a ++ [z.1]) S2 zr.2.2 (rd_sheet hs ht a2 q1' s2) s2.1 a2 (by simp; omega)
        rw [la] at kk
        refine ev_gv ?_
        refine ev_mono kk (fun x S3 q3 => ⟨q3.1, ft_tr (ft_4 m1) (ft_tr (ft_sx s2) q3.2)⟩)
    · have er : rdT (f + 1) m a r = rdT f m (a ++ [hdI r]) r.tail := by show (if _ then _ else _) = _; rw [if_neg r0, if_neg r1, if_neg r2, if_neg r3]
      rw [er]
      refine ev_up (fun n => e_X6_readSigns_12) ?_
      unfold b_X6_readSigns_12
      repeat' (first
        | with_reducible refine ev_gv ?_
        | with_reducible refine ev_gg ?_ ?_
        | with_reducible refine ev_ite (fun _ => ?_) (fun _ => ?_)
        | refine ev_gcr (k) ?_
        | refine ev_gcr (go) ?_
        | refine ev_gcr (s9_length hg ha) ?_
        | omega
        | assumption)
      refine ev_gc (sx_add hg (sx_rf h1.2.2.2.2 ha) (by omega) (by omega)) (fun _ S2 s2 => ?_)
      have a2 : ∀ x ∈ a ++ [hdI r], x < 256 := fun x hx => by
        rcases List.mem_append.mp hx with w | w
        · exact ha2 x w
        · simp only [List.mem_cons, List.not_mem_nil, or_false] at w; omega
      have h2' := rd_sheet hs ht a2 h' s2
      have tt := rd_place h2' hs (sf_tl h2'.2.2.1 r0)
      have kk := ih r.tail (a ++ [hdI r]) _ (rl r0) tt.1 (f4_sv s2.1 tt.2 hg) a2 (by simp; omega)
      rw [la] at kk
      repeat' (first
        | with_reducible refine ev_gv ?_
        | with_reducible refine ev_gg ?_ ?_
        | with_reducible refine ev_ite (fun _ => ?_) (fun _ => ?_)
        | omega
        | assumption)
      refine ev_mono kk (fun x S3 q3 => ⟨q3.1, ft_tr (ft_sx s2) (ft_tr (ft_4 tt.2) q3.2)⟩)
theorem rd_signs {t m : Nat} (hs : SrcOK c2 s) (ht : gRS t) (hm : m ≤ g_room (t + 1)) (hd : 6 ≤ d) (h : RdC c2 s how S0 r b V S) : Ev (fun n => f_X6_readSigns n d 0 S [((t : Nat) : Int), (m : Int)]) (fun _ S1 => RQ (if hdI r = 34 then rdT 40000 m [] r.tail else .inl r) (fun q => FlC c2 s S0 (plI2 s q) S1 ∧ ∃ l, SV S1 t l) (fun z => RdC c2 s how S0 z.2 b V S1 ∧ SV S1 t z.1 ∧ (∀ x ∈ z.1, x < 256) ∧ z.1.length ≤ m) ∧ FT t S S1) := by
  have hg : gSh t := by omega
  have h' := h
  obtain ⟨h1, h2, h3, h4, h5, h6⟩ := h
  have e := sf_le h3
  refine ev_up (fun n => e_X6_readSigns_0) ?_
  unfold b_X6_readSigns_0
  repeat' (first
    | with_reducible refine ev_gv ?_
    | with_reducible refine ev_gg ?_ ?_
    | with_reducible refine ev_ite (fun _ => ?_) (fun _ => ?_)
    | omega
    | assumption)
  refine ev_gc (sx_clear hg h1.2.2.2.2) (fun _ S1 s1 => ?_)
  have hh := rd_sheet hs ht (fun x hx => by cases hx) h' s1
  refine ev_gc (rd_pass (d := d - 1) hh hs (by omega) (c := 34) (by decide)) (fun _ S2 q2 => ?_)
  by_cases c : hdI r = 34
  · rw [if_pos c] at q2
    simp only [if_pos c]
    have lr : r.tail.length < 40000 := by
      have : r.tail.length ≤ r.length := by simp
      have := src_l hs
      omega
    have kk := rs_12 (d := d) hs ht hm hd 40000 r.tail [] S2 lr q2.1 (f4_sv s1.1 q2.2 hg) (fun x hx => by cases hx) (Nat.zero_le _)
    rw [show ((([] : List Int).length : Nat) : Int) = 0 from rfl] at kk
    refine ev_mono kk (fun x S3 q3 => ⟨q3.1, ft_tr (ft_sx s1) (ft_tr (ft_4 q2.2) q3.2)⟩)
  · rw [if_neg c] at q2
    simp only [if_neg c]
    have r4 := g_room_le (t + 1)
    refine ev_mono (fl_rs12 (d := d) (j := 0) q2.1 hs (by omega) (by decide) (by constructor <;> omega)) (fun x S3 q3 => ⟨⟨q3.1, [], f4_sv s1.1 (f4_tr q2.2 q3.2) hg⟩, ft_tr (ft_sx s1) (ft_4 (f4_tr q2.2 q3.2))⟩)
end RS
