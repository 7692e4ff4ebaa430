/-! READING: a NODE begins; NUMBERS, TEXTS, what is no group -/
section RB
variable {S S0 : GS} {c2 d b : Nat} {s r k : List Int} {how q : Int} {V : List ND}
theorem gT336 : gT 336 := by decide
theorem gT344 : gT 344 := by decide
theorem gSh430 : gSh 430 := by decide
theorem gSh432 : gSh 432 := by decide
theorem room430 : g_room 431 = 12 := rfl
theorem room432 : g_room 433 = 40 := rfl
abbrev FB6 (S S1 : GS) : Prop := Fr (fun k => trM 336 k) S S1
theorem rc_tree {W : TW} {S1 : GS} (hs : SrcOK c2 s) (h : RC c2 s S0 S) (h1 : TY 336 S W S1) : RC c2 s S0 S1 := by
  obtain ⟨a1, a2, ⟨ky, a3, a4⟩, a5, a6⟩ := h
  have g := hs.1
  refine ⟨by rw [(h1.2.2.1 470 (by unfold trM; omega)).2.2]; exact a1, sv_ty gT336 hs.1 a2 h1, ⟨ky, sv_ty gT336 gSh430 a3 h1, a4⟩, fr_tr a5 (fr_mono h1.2.2.1 (fun k hk => Or.inl (by unfold trM at hk; omega))), h1.2.2.2⟩
theorem rd_tree {V1 : List ND} {S1 : GS} (hs : SrcOK c2 s) (h : RdC c2 s how S0 r b V S) (h1 : TY 336 S (V1, false) S1) : RdC c2 s how S0 r b V1 S1 := by
  obtain ⟨a1, a2, a3, a4, a5, a6⟩ := h
  have e := (h1.2.2.1 470 (by unfold trM; omega)).1
  exact ⟨rc_tree hs a1 h1, by rw [e]; exact a2, by rw [e]; exact a3, by rw [e]; exact a4, by rw [e]; exact a5, to_ty h1⟩
theorem fl_tree {W : TW} {S1 : GS} (hs : SrcOK c2 s) (h : FlC c2 s S0 q S) (h1 : TY 336 S W S1) : FlC c2 s S0 q S1 := by
  obtain ⟨a1, a2, a3, a4, a5⟩ := h
  have e := (h1.2.2.1 470 (by unfold trM; omega)).1
  exact ⟨rc_tree hs a1 h1, by rw [e]; exact a2, by rw [e]; exact a3, a4, W, to_ty h1⟩
theorem rd_ty (h : RdC c2 s how S0 r b V S) : TY 336 S (V, false) S := ty_to h.2.2.2.2.2 h.1.2.2.2.2
theorem rd_begin {kd : Int} (h : RdC c2 s how S0 r b V S) (hs : SrcOK c2 s) (hd : 2 ≤ d) (hk : SV S 430 k) (hk2 : ∀ x ∈ k, x < 256) (hl : V.length < 100) (hkd : 0 ≤ kd ∧ kd ≤ 5) : Ev (fun n => f_X6_begin n d 0 S [kd]) (fun x S1 => x = (V.length : Int) ∧ RdC c2 s how S0 r b (V ++ [(kd, 1, 0, [], k)]) S1 ∧ FB6 S S1) := by
  have kl := hk.2.1
  rw [room430] at kl
  refine ev_up (fun n => e_X6_begin_0) ?_
  unfold b_X6_begin_0
  refine ev_gg (by omega) ?_
  refine ev_gc (ty_add gT336 (rd_ty h) hkd) (fun x S1 q1 => ?_)
  obtain ⟨rfl, q1⟩ := q1
  rw [aNd_ok hl] at q1
  rw [show addA (V, false).1 = (V.length : Int) from if_pos hl]
  have hk1 := sv_ty gT336 gSh430 hk q1
  have ts := ty_setKey (d := d - 1) (i := (V.length : Int)) gT336 gSh430 (by omega) hk1 hk2 (by constructor <;> omega) (ty_to (to_ty q1) q1.2.2.2)
  refine ev_gc ts (fun _ S2 q2 => ?_)
  rw [stK_ok (by simp) kl] at q2
  simp only [get_end, set_end] at q2
  have q3 : TY 336 S (V ++ [(kd, 1, 0, [], k)], false) S2 := ty_since q1 q2
  exact ev_ret ⟨rfl, rd_tree hs h q3, q3.2.2.1⟩
theorem fl_begin {kd : Int} (h : FlC c2 s S0 q S) (hs : SrcOK c2 s) (hd : 2 ≤ d) (hkd : 0 ≤ kd ∧ kd ≤ 5) : Ev (fun n => f_X6_begin n d 0 S [kd]) (fun x S1 => FlC c2 s S0 q S1 ∧ FB6 S S1) := by
  obtain ⟨W, hW⟩ := h.2.2.2.2
  obtain ⟨ky, hk, hk2⟩ := h.1.2.2.1
  have lW := tv_l hW.1
  refine ev_up (fun n => e_X6_begin_0) ?_
  unfold b_X6_begin_0
  refine ev_gg (by omega) ?_
  refine ev_gc (ty_add gT336 (ty_to hW h.1.2.2.2.2) hkd) (fun x S1 q1 => ?_)
  obtain ⟨rfl, q1⟩ := q1
  have hk1 := sv_ty gT336 gSh430 hk q1
  have ts := ty_setKey (d := d - 1) (i := addA W.1) gT336 gSh430 (by omega) hk1 hk2 (by unfold addA; split <;> constructor <;> omega) (ty_to (to_ty q1) q1.2.2.2)
  refine ev_gc ts (fun _ S2 q2 => ?_)
  have q3 := ty_since q1 q2
  exact ev_ret ⟨fl_tree hs h q3, q3.2.2.1⟩
/-- what reading a leaf may touch -/
abbrev FLf (S S1 : GS) : Prop := Fr (fun k => k = 470 ∨ trM 336 k ∨ k = 432 ∨ k = 433 ∨ k = 434 ∨ k = 435) S S1
theorem flf_4 {S1 : GS} (h : F470 S S1) : FLf S S1 := fr_mono h (fun _ z => Or.inl z)
theorem flf_t {S1 : GS} (h : FB6 S S1) : FLf S S1 := fr_mono h (fun _ z => Or.inr (Or.inl z))
theorem flf_34 {S1 : GS} (h : FT 434 S S1) : FLf S S1 := fr_mono h (fun _ z => by unfold shM at z; omega)
theorem flf_32 {S1 : GS} (h : FT 432 S S1) : FLf S S1 := fr_mono h (fun _ z => by unfold shM at z; omega)
theorem flf_tr {S1 S2 : GS} (h : FLf S S1) (g : FLf S1 S2) : FLf S S2 := fr_tr h g
theorem flf_k {S1 : GS} (h : FLf S S1) (hk : SV S 430 k) : SV S1 430 k := sv_fr hk h (by unfold trM; omega) (by unfold trM; omega)
/-- a leaf read: at the end of the tree, with its KEY -/
def LfQ (c2 : Nat) (s : List Int) (how : Int) (S0 S : GS) (b : Nat) (V : List ND) (k : List Int) (o : Rs (List ND × List Int)) (x : Int) (S1 : GS) : Prop := RQ o (fun q => FlC c2 s S0 (plI2 s q) S1) (fun z => x = (V.length : Int) ∧ RdC c2 s how S0 z.2 b (V ++ kyT z.1 k) S1) ∧ FLf S S1
theorem lfq_since {S1 S2 : GS} {x : Int} {o : Rs (List ND × List Int)} (m : FLf S S1) (h : LfQ c2 s how S0 S1 b V k o x S2) : LfQ c2 s how S0 S b V k o x S2 := ⟨h.1, flf_tr m h.2⟩
-- in a fault a NUMBER goes through
theorem fl_144 {a1 a2 a4 : Int} (h : FlC c2 s S0 q S) (hs : SrcOK c2 s) (hd : 4 ≤ d) : Ev (fun n => f_X6_number n d 144 S [a1, a2, a4]) (fun _ S1 => FlC c2 s S0 q S1 ∧ FLf S S1) := by
  refine ev_up (fun n => e_X6_number_144) ?_
  unfold b_X6_number_144
  refine ev_gg (by omega) ?_
  refine ev_gc (fl_begin (d := d - 1) (kd := 2) h hs (by omega) (by decide)) (fun x S1 q1 => ?_)
  repeat' (first
    | with_reducible refine ev_gv ?_
    | with_reducible refine ev_gg ?_ ?_
    | with_reducible refine ev_ite (fun _ => ?_) (fun _ => ?_)
    | refine ev_gcr (fl_goes q1.1) ?_
    | omega
    | assumption)
  exact ev_ret ⟨q1.1, flf_t q1.2⟩
theorem fl_99 {a1 a2 a3 : Int} {F : List Int} (h : FlC c2 s S0 q S) (hs : SrcOK c2 s) (hd : 4 ≤ d) (hF : SV S 434 F) : Ev (fun n => f_X6_number n d 99 S [a1, a2, a3]) (fun _ S1 => FlC c2 s S0 q S1 ∧ FLf S S1) := by
  have hr := atD_s hs (S.1 470 7)
  have k := fl_here (d := d - 1) h hs (by omega)
  have go := fl_goes (d := d - 1) h
  have k144 := fun a4 => fl_144 (d := d) (a1 := a1) (a2 := a2) (a4 := a4) h hs hd
  by_cases c : atD s (S.1 470 7) = 101
  · refine ev_up (fun n => e_X6_number_99) ?_
    unfold b_X6_number_99
    repeat' (first
      | with_reducible refine ev_gv ?_
      | with_reducible refine ev_gg ?_ ?_
      | with_reducible refine ev_ite (fun _ => ?_) (fun _ => ?_)
      | refine ev_gcr (s9_length gSh434 hF) ?_
      | refine ev_gcr (k) ?_
      | omega
      | assumption)
    refine ev_up (fun n => e_X6_number_128) ?_
    unfold b_X6_number_128
    repeat' (first
      | with_reducible refine ev_gv ?_
      | with_reducible refine ev_gg ?_ ?_
      | with_reducible refine ev_ite (fun _ => ?_) (fun _ => ?_)
      | refine ev_gcr (go) ?_
      | omega
      | assumption)
    all_goals exact k144 _
  · by_cases c' : atD s (S.1 470 7) = 69
    · refine ev_up (fun n => e_X6_number_99) ?_
      unfold b_X6_number_99
      repeat' (first
        | with_reducible refine ev_gv ?_
        | with_reducible refine ev_gg ?_ ?_
        | with_reducible refine ev_ite (fun _ => ?_) (fun _ => ?_)
        | refine ev_gcr (s9_length gSh434 hF) ?_
        | refine ev_gcr (k) ?_
        | omega
        | assumption)
      refine ev_up (fun n => e_X6_number_128) ?_
      unfold b_X6_number_128
      repeat' (first
        | with_reducible refine ev_gv ?_
        | with_reducible refine ev_gg ?_ ?_
        | with_reducible refine ev_ite (fun _ => ?_) (fun _ => ?_)
        | refine ev_gcr (go) ?_
        | omega
        | assumption)
      all_goals exact k144 _
    · refine ev_up (fun n => e_X6_number_99) ?_
      unfold b_X6_number_99
      repeat' (first
        | with_reducible refine ev_gv ?_
        | with_reducible refine ev_gg ?_ ?_
        | with_reducible refine ev_ite (fun _ => ?_) (fun _ => ?_)
        | refine ev_gcr (s9_length gSh434 hF) ?_
        | refine ev_gcr (k) ?_
        | omega
        | assumption)
      all_goals exact k144 _
theorem fl_61 {a1 a2 : Int} {F : List Int} (h : FlC c2 s S0 q S) (hs : SrcOK c2 s) (hd : 4 ≤ d) (hF : SV S 434 F) : Ev (fun n => f_X6_number n d 61 S [a1, a2]) (fun _ S1 => FlC c2 s S0 q S1 ∧ FLf S S1) := by
  have hr := atD_s hs (S.1 470 7)
  have k := fl_here (d := d - 1) h hs (by omega)
  have go := fl_goes (d := d - 1) h
  have k99 := fun a3 => fl_99 (d := d) (a1 := a1) (a2 := a2) (a3 := a3) h hs hd hF
  by_cases c : atD s (S.1 470 7) = 46
  · refine ev_up (fun n => e_X6_number_61) ?_
    unfold b_X6_number_61
    repeat' (first
      | with_reducible refine ev_gv ?_
      | with_reducible refine ev_gg ?_ ?_
      | with_reducible refine ev_ite (fun _ => ?_) (fun _ => ?_)
      | refine ev_gcr (s9_length gSh434 hF) ?_
      | refine ev_gcr (k) ?_
      | refine ev_gcr (go) ?_
      | omega
      | assumption)
    all_goals exact k99 _
  · refine ev_up (fun n => e_X6_number_61) ?_
    unfold b_X6_number_61
    repeat' (first
      | with_reducible refine ev_gv ?_
      | with_reducible refine ev_gg ?_ ?_
      | with_reducible refine ev_ite (fun _ => ?_) (fun _ => ?_)
      | refine ev_gcr (s9_length gSh434 hF) ?_
      | refine ev_gcr (k) ?_
      | refine ev_gcr (go) ?_
      | omega
      | assumption)
    all_goals exact k99 _
theorem rd_144 {r0 F : List Int} {p g : Int} (h : RdC c2 s how S0 r b V S) (hs : SrcOK c2 s) (hd : 5 ≤ d) (hk : SV S 430 k) (hk2 : ∀ x ∈ k, x < 256) (hl : V.length < 100) (hF : SV S 434 F) (hf : fgR F) (hp : -150 ≤ p ∧ p ≤ 150) (h0 : 0 ≤ plI2 s r0 ∧ plI2 s r0 ≤ s.length) (hg : inr g) : Ev (fun n => f_X6_number n d 144 S [plI2 s r0, g, p]) (LfQ c2 s how S0 S b V k (if nmOk F p = 1 then .inr ([(2, 1, nmPw F p, nmSg g F, [])], r) else .inl r0)) := by
  have lF := hF.2.1
  rw [room434] at lF
  refine ev_up (fun n => e_X6_number_144) ?_
  unfold b_X6_number_144
  refine ev_gg (by omega) ?_
  refine ev_gc (rd_begin (d := d - 1) (kd := 2) h hs (by omega) hk hk2 hl (by decide)) (fun x S1 q1 => ?_)
  obtain ⟨rfl, q1, m1⟩ := q1
  have hF1 : SV S1 434 F := sv_fr hF m1 (by unfold trM; omega) (by unfold trM; omega)
  have sn := ty_setNumber (d := d - 1) (i := V.length) (neg := g) (p := p) gT336 gSh434 (by omega) hF1 (fgR_lt hf) lF hp (by simp) hg (rd_ty q1)
  have en : ∀ x : Int, x = nmOk F p → (x = 0 ∨ x = 1) := by
    intro x hx
    unfold nmOk at hx
    split at hx <;> omega
  repeat' (first
    | with_reducible refine ev_gv ?_
    | with_reducible refine ev_gg ?_ ?_
    | with_reducible refine ev_ite (fun _ => ?_) (fun _ => ?_)
    | refine ev_gcr (rd_goes q1) ?_
    | omega
    | assumption)
  refine ev_gc sn (fun x S2 q2 => ?_)
  obtain ⟨e, q2⟩ := q2
  unfold stN at q2
  simp only [get_end, set_end] at q2
  have q3 := rd_tree hs q1 q2
  have m2 : FLf S S2 := flf_tr (flf_t m1) (flf_t q2.2.2.1)
  have e01 := en x e
  refine ev_gg (by constructor <;> omega) ?_
  by_cases ok : nmOk F p = 1
  · rw [if_pos ok]
    refine ev_ite (fun _ => ?_) (fun z => by omega)
    exact ev_ret ⟨⟨rfl, q3⟩, m2⟩
  · rw [if_neg ok]
    refine ev_ite (fun z => by omega) (fun _ => ?_)
    refine ev_gc (rd_fail (d := d - 1) q3 hs h0) (fun y S3 q4 => ?_)
    exact ev_ret ⟨q4.2.1, flf_tr m2 (flf_4 q4.2.2)⟩
theorem rd_99 {r0 F : List Int} {w g : Int} (h : RdC c2 s how S0 r b V S) (hs : SrcOK c2 s) (hd : 6 ≤ d) (hk : SV S 430 k) (hk2 : ∀ x ∈ k, x < 256) (hl : V.length < 100) (hF : SV S 434 F) (hf : fgR F) (hw : 0 ≤ w ∧ w ≤ 24) (h0 : 0 ≤ plI2 s r0 ∧ plI2 s r0 ≤ s.length) (hg : inr g) : Ev (fun n => f_X6_number n d 99 S [plI2 s r0, g, w]) (LfQ c2 s how S0 S b V k (bd (rdN3 r) (fun z3 => if nmOk F (w - F.length + z3.1) = 1 then .inr ([(2, 1, nmPw F (w - F.length + z3.1), nmSg g F, [])], z3.2) else .inl r0))) := by
  have lF := hF.2.1
  rw [room434] at lF
  have h' := h
  have e := sf_le h.2.2.1
  have hr := hdI_r hs h.2.2.1
  have kh := rd_here (d := d - 1) h hs (by omega)
  have go := rd_goes (d := d - 1) h
  unfold rdN3
  by_cases c : hdI r = 101 ∨ hdI r = 69
  · rw [if_pos c]
    have ex := rd_exp (d := d - 1) h hs (by omega) (hdI_ne rfl (by omega))
    have fin : Ev (fun n => gc (f_X6_exponent n (d - 1) 0 S []) fun x7 S_8 => gv (w - (F.length : Int) + x7) fun x10 => f_X6_number n d 144 S_8 [plI2 s r0, g, x10]) (LfQ c2 s how S0 S b V k (bd (rdX r.tail) (fun z3 => if nmOk F (w - F.length + z3.1) = 1 then .inr ([(2, 1, nmPw F (w - F.length + z3.1), nmSg g F, [])], z3.2) else .inl r0))) := by
      refine ev_gc ex (fun x S1 q1 => ?_)
      obtain ⟨q1, m1⟩ := q1
      refine ev_gv ?_
      cases ho : rdX r.tail with
      | inl q =>
        rw [ho] at q1
        refine ev_mono (fl_144 (d := d) q1 hs (by omega)) (fun x S2 q2 => ⟨q2.1, flf_tr (flf_4 m1) q2.2⟩)
      | inr z =>
        rw [ho] at q1
        obtain ⟨rfl, q1⟩ := q1
        have zr := rdX_r ho
        have kk := rd_144 (d := d) (r0 := r0) (p := w - F.length + z.1) (g := g) q1 hs (by omega) (f4_sv hk m1 gSh430) hk2 hl (f4_sv hF m1 gSh434) hf (by omega) h0 hg
        exact ev_mono kk (fun x S2 q2 => lfq_since (flf_4 m1) q2)
    refine ev_up (fun n => e_X6_number_99) ?_
    unfold b_X6_number_99
    repeat' (first
      | with_reducible refine ev_gv ?_
      | with_reducible refine ev_gg ?_ ?_
      | with_reducible refine ev_ite (fun _ => ?_) (fun _ => ?_)
      | refine ev_gcr (s9_length gSh434 hF) ?_
      | refine ev_gcr (kh) ?_
      | omega
      | assumption)
    all_goals
      refine ev_up (fun n => e_X6_number_128) ?_
      unfold b_X6_number_128
    all_goals
      repeat' (first
        | with_reducible refine ev_gv ?_
        | with_reducible refine ev_gg ?_ ?_
        | with_reducible refine ev_ite (fun _ => ?_) (fun _ => ?_)
        | refine ev_gcr (go) ?_
        | omega
        | assumption)
    all_goals exact fin
  · rw [if_neg c]
    have kk := rd_144 (d := d) (r0 := r0) (p := w - F.length) (g := g) h hs (by omega) hk hk2 hl hF hf (by omega) h0 hg
    have e0 : w - (F.length : Int) + 0 = w - F.length := by omega
    show Ev _ (LfQ c2 s how S0 S b V k (if nmOk F (w - F.length + 0) = 1 then .inr ([(2, 1, nmPw F (w - F.length + 0), nmSg g F, [])], r) else .inl r0))
    rw [e0]
    refine ev_up (fun n => e_X6_number_99) ?_
    unfold b_X6_number_99
    repeat' (first
      | with_reducible refine ev_gv ?_
      | with_reducible refine ev_gg ?_ ?_
      | with_reducible refine ev_ite (fun _ => ?_) (fun _ => ?_)
      | refine ev_gcr (s9_length gSh434 hF) ?_
      | refine ev_gcr (kh) ?_
      | omega
      | assumption)
    all_goals exact kk
theorem rd_61 {r0 F : List Int} {g : Int} (h : RdC c2 s how S0 r b V S) (hs : SrcOK c2 s) (hd : 7 ≤ d) (hk : SV S 430 k) (hk2 : ∀ x ∈ k, x < 256) (hl : V.length < 100) (hF : SV S 434 F) (hf : fgR F) (h0 : 0 ≤ plI2 s r0 ∧ plI2 s r0 ≤ s.length) (hg : inr g) : Ev (fun n => f_X6_number n d 61 S [plI2 s r0, g]) (LfQ c2 s how S0 S b V k (bd (rdN2 (F, r)) (fun z2 => bd (rdN3 z2.2) (fun z3 => if nmOk z2.1 ((F.length : Int) - z2.1.length + z3.1) = 1 then .inr ([(2, 1, nmPw z2.1 ((F.length : Int) - z2.1.length + z3.1), nmSg g z2.1, [])], z3.2) else .inl r0)))) := by
  have lF := hF.2.1
  rw [room434] at lF
  have e := sf_le h.2.2.1
  have hr := hdI_r hs h.2.2.1
  have kh := rd_here (d := d - 1) h hs (by omega)
  have go := rd_goes (d := d - 1) h
  unfold rdN2
  by_cases c : hdI r = 46
  · simp only [if_pos c]
    have t := rd_place h hs (sf_tl h.2.2.1 (hdI_ne c (by decide)))
    have fg := rd_figs (d := d - 1) t.1 hs (by omega) (f4_sv hF t.2 gSh434) hf
    refine ev_up (fun n => e_X6_number_61) ?_
    unfold b_X6_number_61
    repeat' (first
      | with_reducible refine ev_gv ?_
      | with_reducible refine ev_gg ?_ ?_
      | with_reducible refine ev_ite (fun _ => ?_) (fun _ => ?_)
      | refine ev_gcr (s9_length gSh434 hF) ?_
      | refine ev_gcr (kh) ?_
      | refine ev_gcr (go) ?_
      | omega
      | assumption)
    refine ev_gc fg (fun _ S1 q1 => ?_)
    obtain ⟨q1, m1⟩ := q1
    have m2 : FLf S S1 := flf_tr (flf_4 t.2) (flf_34 m1)
    cases ho : rdF1 F r.tail with
    | inl q =>
      rw [ho] at q1
      obtain ⟨q1, F1, hF1⟩ := q1
      refine ev_mono (fl_99 (d := d) q1 hs (by omega) hF1) (fun x S2 q2 => ⟨q2.1, flf_tr m2 q2.2⟩)
    | inr z =>
      rw [ho] at q1
      obtain ⟨q1, hz, hzf⟩ := q1
      have kk := rd_99 (d := d) (r0 := r0) (w := (F.length : Int)) (g := g) q1 hs (by omega) (flf_k m2 hk) hk2 hl hz hzf (by omega) h0 hg
      exact ev_mono kk (fun x S2 q2 => lfq_since m2 q2)
  · simp only [if_neg c]
    have kk := rd_99 (d := d) (r0 := r0) (w := (F.length : Int)) (g := g) h hs (by omega) hk hk2 hl hF hf (by omega) h0 hg
    refine ev_up (fun n => e_X6_number_61) ?_
    unfold b_X6_number_61
    repeat' (first
      | with_reducible refine ev_gv ?_
      | with_reducible refine ev_gg ?_ ?_
      | with_reducible refine ev_ite (fun _ => ?_) (fun _ => ?_)
      | refine ev_gcr (s9_length gSh434 hF) ?_
      | refine ev_gcr (kh) ?_
      | refine ev_gcr (go) ?_
      | omega
      | assumption)
    all_goals exact kk
theorem rd_41 {r0 : List Int} {g : Int} (h : RdC c2 s how S0 r b V S) (hs : SrcOK c2 s) (hd : 8 ≤ d) (hk : SV S 430 k) (hk2 : ∀ x ∈ k, x < 256) (hl : V.length < 100) (hF : SV S 434 []) (h0 : 0 ≤ plI2 s r0 ∧ plI2 s r0 ≤ s.length) (hg : inr g) : Ev (fun n => f_X6_number n d 41 S [plI2 s r0, g]) (LfQ c2 s how S0 S b V k (bd (rdN1 r) (fun z1 => bd (rdN2 z1) (fun z2 => bd (rdN3 z2.2) (fun z3 => if nmOk z2.1 ((z1.1.length : Int) - z2.1.length + z3.1) = 1 then .inr ([(2, 1, nmPw z2.1 ((z1.1.length : Int) - z2.1.length + z3.1), nmSg g z2.1, [])], z3.2) else .inl r0))))) := by
  have hr := hdI_r hs h.2.2.1
  have kh := rd_here (d := d - 1) h hs (by omega)
  have f0 : fgR [] := fun x hx => by cases hx
  have nx : ∀ (o : Rs (List Int × List Int)) (S1 : GS), RQ o (fun q => FlC c2 s S0 (plI2 s q) S1 ∧ ∃ F1, SV S1 434 F1) (fun z => RdC c2 s how S0 z.2 b V S1 ∧ SV S1 434 z.1 ∧ fgR z.1) → FT 434 S S1 → Ev (fun n => f_X6_number n d 61 S1 [plI2 s r0, g]) (LfQ c2 s how S0 S b V k (bd o (fun z1 => bd (rdN2 z1) (fun z2 => bd (rdN3 z2.2) (fun z3 => if nmOk z2.1 ((z1.1.length : Int) - z2.1.length + z3.1) = 1 then .inr ([(2, 1, nmPw z2.1 ((z1.1.length : Int) - z2.1.length + z3.1), nmSg g z2.1, [])], z3.2) else .inl r0))))) := by
    intro o S1 q1 m1
    cases o with
    | inl q =>
      obtain ⟨q1, F1, hF1⟩ := q1
      exact ev_mono (fl_61 (d := d) q1 hs (by omega) hF1) (fun x S2 q2 => ⟨q2.1, flf_tr (flf_34 m1) q2.2⟩)
    | inr z =>
      obtain ⟨q1, hz, hzf⟩ := q1
      have kk := rd_61 (d := d) (r0 := r0) (g := g) q1 hs (by omega) (flf_k (flf_34 m1) hk) hk2 hl hz hzf h0 hg
      exact ev_mono kk (fun x S2 q2 => lfq_since (flf_34 m1) q2)
  unfold rdN1
  by_cases c : hdI r = 48
  · rw [if_pos c]
    have fg := rd_fig (d := d - 1) h hs (by omega) hF f0 (by omega)
    rw [c] at fg
    simp only [if_neg (show ¬ 24 ≤ ([] : List Int).length by decide)] at fg
    refine ev_up (fun n => e_X6_number_41) ?_
    unfold b_X6_number_41
    repeat' (first
      | with_reducible refine ev_gv ?_
      | with_reducible refine ev_gg ?_ ?_
      | with_reducible refine ev_ite (fun _ => ?_) (fun _ => ?_)
      | refine ev_gcr (kh) ?_
      | omega
      | assumption)
    refine ev_gc fg (fun _ S1 q1 => ?_)
    exact nx (.inr ([48], r.tail)) S1 ⟨q1.1.1, q1.1.2, fun x hx => by simp only [List.mem_cons, List.not_mem_nil, or_false] at hx; omega⟩ q1.2
  · rw [if_neg c]
    have fg := rd_figs (d := d - 1) h hs (by omega) hF f0
    refine ev_up (fun n => e_X6_number_41) ?_
    unfold b_X6_number_41
    repeat' (first
      | with_reducible refine ev_gv ?_
      | with_reducible refine ev_gg ?_ ?_
      | with_reducible refine ev_ite (fun _ => ?_) (fun _ => ?_)
      | refine ev_gcr (kh) ?_
      | omega
      | assumption)
    refine ev_gc fg (fun _ S1 q1 => ?_)
    exact nx _ S1 q1.1 q1.2
theorem rd_number (h : RdC c2 s how S0 r b V S) (hs : SrcOK c2 s) (hd : 9 ≤ d) (hk : SV S 430 k) (hk2 : ∀ x ∈ k, x < 256) (hl : V.length < 100) : Ev (fun n => f_X6_number n d 0 S []) (LfQ c2 s how S0 S b V k (rdNb r)) := by
  have e := sf_le h.2.2.1
  refine ev_up (fun n => e_X6_number_0) ?_
  unfold b_X6_number_0
  repeat' (first
    | with_reducible refine ev_gv ?_
    | with_reducible refine ev_gg ?_ ?_
    | with_reducible refine ev_ite (fun _ => ?_) (fun _ => ?_)
    | omega
    | assumption)
  refine ev_gc (sx_clear gSh434 h.1.2.2.2.2) (fun _ S1 s1 => ?_)
  have h1 := rd_sheet hs (Or.inr (Or.inr rfl)) (fun x hx => by cases hx) h s1
  have m1 : FLf S S1 := flf_34 (ft_sx s1)
  have hr := hdI_r hs h1.2.2.1
  have kh := rd_here (d := d - 1) h1 hs (by omega)
  have l := src_l hs
  unfold rdNb ngS nbT
  rw [e.2.2.1]
  by_cases c : hdI r = 45
  · simp only [if_pos c]
    have t := rd_place h1 hs (sf_tl h1.2.2.1 (hdI_ne c (by decide)))
    have kk := rd_41 (d := d) (r0 := r) (g := 1) t.1 hs (by omega) (f4_sv (flf_k m1 hk) t.2 gSh430) hk2 hl (f4_sv s1.1 t.2 gSh434) (by omega) (by decide)
    have fin := ev_mono kk (fun x S2 q2 => lfq_since (flf_tr m1 (flf_4 t.2)) q2)
    repeat' (first
      | with_reducible refine ev_gv ?_
      | with_reducible refine ev_gg ?_ ?_
      | with_reducible refine ev_ite (fun _ => ?_) (fun _ => ?_)
      | refine ev_gcr (kh) ?_
      | omega
      | assumption)
    refine ev_up (fun n => e_X6_number_26) ?_
    unfold b_X6_number_26
    repeat' (first
      | with_reducible refine ev_gv ?_
      | with_reducible refine ev_gg ?_ ?_
      | with_reducible refine ev_ite (fun _ => ?_) (fun _ => ?_)
      | omega
      | assumption)
    all_goals exact fin
  · simp only [if_neg c]
    have kk := rd_41 (d := d) (r0 := r) (g := 0) h1 hs (by omega) (flf_k m1 hk) hk2 hl s1.1 (by omega) (by decide)
    have fin := ev_mono kk (fun x S2 q2 => lfq_since m1 q2)
    repeat' (first
      | with_reducible refine ev_gv ?_
      | with_reducible refine ev_gg ?_ ?_
      | with_reducible refine ev_ite (fun _ => ?_) (fun _ => ?_)
      | refine ev_gcr (kh) ?_
      | omega
      | assumption)
    refine ev_up (fun n => e_X6_number_26) ?_
    unfold b_X6_number_26
    repeat' (first
      | with_reducible refine ev_gv ?_
      | with_reducible refine ev_gg ?_ ?_
      | with_reducible refine ev_ite (fun _ => ?_) (fun _ => ?_)
      | omega
      | assumption)
    all_goals exact fin
theorem text_18 {t : List Int} (hs : SrcOK c2 s) (hd : 2 ≤ d) (hl : V.length < 100) (ht : t.length ≤ 40) (ht2 : ∀ x ∈ t, x < 256) : ∀ (m i : Nat) (S : GS), t.length - i < m → i ≤ t.length → SV S 432 t → RdC c2 s how S0 r b (V ++ [(3, 1, 0, t.take i, k)]) S → Ev (fun n => f_X6_text n d 18 S [(V.length : Int), (i : Int)]) (fun x S1 => x = (V.length : Int) ∧ RdC c2 s how S0 r b (V ++ [(3, 1, 0, t, k)]) S1 ∧ FLf S S1) := by
  intro m
  induction m with
  | zero => intros; omega
  | succ m ih =>
    intro i S h1 h2 hv h
    by_cases hi : i < t.length
    · have ra := sv_at hv hi
      have rb := ht2 _ (gD_mem hi)
      have as := ty_addSign (d := d - 1) (i := (V.length : Int)) (a := t.getD i 0) gT336 (rd_ty h) (by constructor <;> omega) (by omega)
      have ea : aSg (V ++ [(3, 1, 0, t.take i, k)], false) (V.length : Int) (t.getD i 0) = (V ++ [(3, 1, 0, t.take (i + 1), k)], false) := by
        have e1 : nt (V ++ [((3 : Int), 1, (0 : Int), t.take i, k)]) V.length = t.take i := by unfold nt; rw [get_end]
        have := aSgs_ok [t.getD i 0] (V ++ [((3 : Int), 1, (0 : Int), t.take i, k)], false) V.length (by simp) (by rw [e1]; simp; omega)
        have e2 : aSgs (V ++ [((3 : Int), 1, (0 : Int), t.take i, k)], false) (V.length : Int) [t.getD i 0] = aSg (V ++ [((3 : Int), 1, (0 : Int), t.take i, k)], false) (V.length : Int) (t.getD i 0) := rfl
        rw [e2] at this
        rw [this, e1, get_end, set_end]
        have e3 : t.take i ++ [t.getD i 0] = t.take (i + 1) := by
          rw [List.take_succ, List.getD_eq_getElem?_getD, List.getElem?_eq_getElem hi]
          rfl
        rw [e3]
        rfl
      rw [ea] at as
      refine ev_up (fun n => e_X6_text_18) ?_
      unfold b_X6_text_18
      repeat' (first
        | with_reducible refine ev_gv ?_
        | with_reducible refine ev_gg ?_ ?_
        | with_reducible refine ev_ite (fun _ => ?_) (fun _ => ?_)
        | refine ev_gcr (s9_length gSh432 hv) ?_
        | refine ev_gcr (rd_goes h) ?_
        | refine ev_gcr (rd_as (s9_at (i := (i : Int)) gSh432 hv (by constructor <;> omega)) (atD_nat hi)) ?_
        | omega
        | assumption)
      refine ev_gc as (fun _ S1 q1 => ?_)
      refine ev_gv ?_
      have kk := ih (i + 1) S1 (by omega) (by omega) (sv_ty gT336 gSh432 hv q1) (rd_tree hs h q1)
      refine ev_mono kk (fun x S2 q2 => ⟨q2.1, q2.2.1, flf_tr (flf_t q1.2.2.1) q2.2.2⟩)
    · have : i = t.length := by omega
      subst this
      rw [List.take_length] at h
      refine ev_up (fun n => e_X6_text_18) ?_
      unfold b_X6_text_18
      repeat' (first
        | with_reducible refine ev_gv ?_
        | with_reducible refine ev_gg ?_ ?_
        | with_reducible refine ev_ite (fun _ => ?_) (fun _ => ?_)
        | refine ev_gcr (s9_length gSh432 hv) ?_
        | omega
        | assumption)
      exact ev_ret ⟨rfl, h, fr_rf⟩
theorem rd_text (h : RdC c2 s how S0 r b V S) (hs : SrcOK c2 s) (hd : 9 ≤ d) (hk : SV S 430 k) (hk2 : ∀ x ∈ k, x < 256) (hl : V.length < 100) (hr : hdI r = 34) : Ev (fun n => f_X6_text n d 0 S []) (LfQ c2 s how S0 S b V k (rdTx r)) := by
  refine ev_up (fun n => e_X6_text_0) ?_
  unfold b_X6_text_0
  refine ev_gg (by omega) ?_
  refine ev_gc (rd_begin (d := d - 1) (kd := 3) h hs (by omega) hk hk2 hl (by decide)) (fun x S1 q1 => ?_)
  obtain ⟨rfl, q1, m1⟩ := q1
  refine ev_gc (rd_signs (d := d - 1) (t := 432) (m := 40) hs (Or.inr (Or.inl rfl)) (by decide) (by omega) q1) (fun _ S2 q2 => ?_)
  obtain ⟨q2, m2⟩ := q2
  rw [if_pos hr] at q2
  have m3 : FLf S S2 := flf_tr (flf_t m1) (flf_32 m2)
  unfold rdTx
  cases ho : rdT 40000 40 [] r.tail with
  | inl q =>
    rw [ho] at q2
    obtain ⟨q2, l, hl2⟩ := q2
    have lr := hl2.2.1
    rw [room432] at lr
    by_cases z : l.length = 0
    · refine ev_up (fun n => e_X6_text_18) ?_
      unfold b_X6_text_18
      repeat' (first
        | with_reducible refine ev_gv ?_
        | with_reducible refine ev_gg ?_ ?_
        | with_reducible refine ev_ite (fun _ => ?_) (fun _ => ?_)
        | refine ev_gcr (s9_length gSh432 hl2) ?_
        | omega
        | assumption)
      exact ev_ret ⟨q2, m3⟩
    · refine ev_up (fun n => e_X6_text_18) ?_
      unfold b_X6_text_18
      repeat' (first
        | with_reducible refine ev_gv ?_
        | with_reducible refine ev_gg ?_ ?_
        | with_reducible refine ev_ite (fun _ => ?_) (fun _ => ?_)
        | refine ev_gcr (s9_length gSh432 hl2) ?_
        | refine ev_gcr (fl_goes q2) ?_
        | omega
        | assumption)
      exact ev_ret ⟨q2, m3⟩
  | inr z =>
    rw [ho] at q2
    obtain ⟨q2, hz, hz2, hz3⟩ := q2
    have kk := text_18 (d := d) (k := k) (t := z.1) hs (by omega) hl hz3 hz2 (z.1.length + 1) 0 S2 (by omega) (by omega) hz q2
    exact ev_mono kk (fun x S3 q3 => ⟨⟨q3.1, q3.2.1⟩, flf_tr m3 q3.2.2⟩)
theorem passAll_fl {t : Nat} {i : Int} (h : FlC c2 s S0 q S) (hs : SrcOK c2 s) (ht : t < 54) (hi : 0 ≤ i ∧ i < 100) (hd : 4 ≤ d) : Ev (fun n => f_X6_passAll n d 2 S [((t : Nat) : Int), i]) (fun _ S1 => FlC c2 s S0 q S1 ∧ F470 S S1) := by
  have xl := xlen_le2 t ht
  have go := fl_goes (d := d - 1) h
  refine ev_up (fun n => e_X6_passAll_2) ?_
  unfold b_X6_passAll_2
  repeat' (first
    | with_reducible refine ev_gv ?_
    | with_reducible refine ev_gg ?_ ?_
    | with_reducible refine ev_ite (fun _ => ?_) (fun _ => ?_)
    | refine ev_gcr (go) ?_
    | omega
    | assumption)
  all_goals exact ev_ret ⟨h, f4_rf⟩
theorem passAll_2 {t : Nat} (hs : SrcOK c2 s) (ht : t < 54) (hd : 5 ≤ d) (hx : xlen.getD t 0 < 100) : ∀ (m i : Nat) (r : List Int) (S : GS), (sx t).length - i < m → i ≤ (sx t).length → RdC c2 s how S0 r b V S → Ev (fun n => f_X6_passAll n d 2 S [((t : Nat) : Int), (i : Int)]) (fun _ S1 => RQ (rdW ((sx t).drop i) r) (fun q => FlC c2 s S0 (plI2 s q) S1) (fun r1 => RdC c2 s how S0 r1 b V S1) ∧ F470 S S1) := by
  intro m
  induction m with
  | zero => intros; omega
  | succ m ih =>
    intro i r S h1 h2 h
    have el := sx_len t
    by_cases hi : i < (sx t).length
    · have rr := xch_rng t ht i (by omega)
      have ec : (sx t).getD i 0 = xch t i := sx_at (by omega)
      rw [drop_one hi, ec]
      have go := rd_goes (d := d - 1) h
      refine ev_up (fun n => e_X6_passAll_2) ?_
      unfold b_X6_passAll_2
      repeat' (first
        | with_reducible refine ev_gv ?_
        | with_reducible refine ev_gg ?_ ?_
        | with_reducible refine ev_ite (fun _ => ?_) (fun _ => ?_)
        | refine ev_gcr (go) ?_
        | omega
        | assumption)
      rw [Int.toNat_natCast]
      refine ev_gc (rd_pass (d := d - 1) h hs (by omega) (c := xch t i) (by omega)) (fun _ S1 q1 => ?_)
      refine ev_gv ?_
      show Ev _ (fun _ S1 => RQ (if hdI r = xch t i then rdW ((sx t).drop (i + 1)) r.tail else .inl r) _ _ ∧ _)
      by_cases c : hdI r = xch t i
      · rw [if_pos c] at q1
        simp only [if_pos c]
        have kk := ih (i + 1) r.tail S1 (by omega) (by omega) q1.1
        exact ev_mono kk (fun _ S2 q2 => ⟨q2.1, f4_tr q1.2 q2.2⟩)
      · rw [if_neg c] at q1
        simp only [if_neg c]
        have kk := passAll_fl (d := d) (t := t) (i := (i : Int) + 1) q1.1 hs ht (by omega) (by omega)
        exact ev_mono kk (fun _ S2 q2 => ⟨q2.1, f4_tr q1.2 q2.2⟩)
    · have e0 : (sx t).drop i = [] := List.drop_eq_nil_of_le (by omega)
      rw [e0]
      refine ev_up (fun n => e_X6_passAll_2) ?_
      unfold b_X6_passAll_2
      repeat' (first
        | with_reducible refine ev_gv ?_
        | with_reducible refine ev_gg ?_ ?_
        | with_reducible refine ev_ite (fun _ => ?_) (fun _ => ?_)
        | omega
        | assumption)
      exact ev_ret ⟨h, f4_rf⟩
theorem rd_passAll {t : Nat} (h : RdC c2 s how S0 r b V S) (hs : SrcOK c2 s) (ht : t < 54) (hd : 5 ≤ d) (hx : xlen.getD t 0 < 100) : Ev (fun n => f_X6_passAll n d 0 S [((t : Nat) : Int)]) (fun _ S1 => RQ (rdW (sx t) r) (fun q => FlC c2 s S0 (plI2 s q) S1) (fun r1 => RdC c2 s how S0 r1 b V S1) ∧ F470 S S1) := by
  refine ev_up (fun n => e_X6_passAll_0) ?_
  unfold b_X6_passAll_0
  exact passAll_2 hs ht hd hx ((sx t).length + 1) 0 r S (by omega) (by omega) h
theorem fl_71 {g : Int} (h : FlC c2 s S0 q S) (hs : SrcOK c2 s) (hd : 4 ≤ d) (hg : g = 0 ∨ g = 1) : Ev (fun n => f_X6_constant n d 71 S [g, ((336 : Nat) : Int)]) (fun x S1 => FlC c2 s S0 q S1 ∧ FLf S S1) := by
  obtain ⟨W, hW⟩ := h.2.2.2.2
  obtain ⟨ky, hk, hk2⟩ := h.1.2.2.1
  have lW := tv_l hW.1
  refine ev_up (fun n => e_X6_constant_71) ?_
  unfold b_X6_constant_71
  refine ev_gg (by omega) ?_
  refine ev_gg (by decide) ?_
  refine ev_gc (ty_addTruth (b := g) gT336 (by omega) (ty_to hW h.1.2.2.2.2) (by constructor <;> omega)) (fun x S1 q1 => ?_)
  obtain ⟨rfl, q1⟩ := q1
  have hk1 := sv_ty gT336 gSh430 hk q1
  have ts := ty_setKey (d := d - 1) (i := addA W.1) gT336 gSh430 (by omega) hk1 hk2 (by unfold addA; split <;> constructor <;> omega) (ty_to (to_ty q1) q1.2.2.2)
  refine ev_gc ts (fun _ S2 q2 => ?_)
  have q3 := ty_since q1 q2
  exact ev_ret ⟨fl_tree hs h q3, flf_t q3.2.2.1⟩
theorem rd_71 {g : Int} (h : RdC c2 s how S0 r b V S) (hs : SrcOK c2 s) (hd : 4 ≤ d) (hk : SV S 430 k) (hk2 : ∀ x ∈ k, x < 256) (hl : V.length < 100) (hg : g = 0 ∨ g = 1) : Ev (fun n => f_X6_constant n d 71 S [g, ((336 : Nat) : Int)]) (LfQ c2 s how S0 S b V k (.inr ([(1, 1, g, [], [])], r))) := by
  have kl := hk.2.1
  rw [room430] at kl
  refine ev_up (fun n => e_X6_constant_71) ?_
  unfold b_X6_constant_71
  refine ev_gg (by omega) ?_
  refine ev_gg (by decide) ?_
  refine ev_gc (ty_addTruth (b := g) gT336 (by omega) (rd_ty h) (by constructor <;> omega)) (fun x S1 q1 => ?_)
  obtain ⟨rfl, q1⟩ := q1
  have ea : aTr (V, false) g = (V ++ [(1, 1, g, [], [])], false) := by
    unfold aTr
    rw [if_pos hl]
    rcases hg with e | e <;> subst e <;> rfl
  rw [ea] at q1
  rw [show addA (V, false).1 = (V.length : Int) from if_pos hl]
  have hk1 := sv_ty gT336 gSh430 hk q1
  have ts := ty_setKey (d := d - 1) (i := (V.length : Int)) gT336 gSh430 (by omega) hk1 hk2 (by constructor <;> omega) (ty_to (to_ty q1) q1.2.2.2)
  refine ev_gc ts (fun _ S2 q2 => ?_)
  rw [stK_ok (by simp) kl] at q2
  simp only [get_end, set_end] at q2
  have q3 : TY 336 S (V ++ [(1, 1, g, [], k)], false) S2 := ty_since q1 q2
  exact ev_ret ⟨⟨rfl, rd_tree hs h q3⟩, flf_t q3.2.2.1⟩
theorem rd_53 {g : Int} {t : Nat} (h : RdC c2 s how S0 r b V S) (hs : SrcOK c2 s) (hd : 7 ≤ d) (hk : SV S 430 k) (hk2 : ∀ x ∈ k, x < 256) (hl : V.length < 100) (ht : t < 54) (hx : xlen.getD t 0 < 100) (hg : inr g) : Ev (fun n => f_X6_constant n d 53 S [g, ((t : Nat) : Int)]) (LfQ c2 s how S0 S b V k (bd (rdW (sx t) r) (fun r1 => .inr ([(1, 1, if g = 116 then 1 else 0, [], [])], r1)))) := by
  refine ev_up (fun n => e_X6_constant_53) ?_
  unfold b_X6_constant_53
  refine ev_gg (by omega) ?_
  refine ev_gc (rd_passAll (d := d - 1) h hs ht (by omega) hx) (fun _ S1 q1 => ?_)
  obtain ⟨q1, m1⟩ := q1
  refine ev_gg hg ?_
  cases ho : rdW (sx t) r with
  | inl q =>
    rw [ho] at q1
    have kk := fun (g : Int) hg => fl_71 (d := d) (g := g) q1 hs (by omega) hg
    refine ev_ite (fun _ => ?_) (fun _ => ?_)
    · exact ev_mono (kk 0 (Or.inl rfl)) (fun x S2 q2 => ⟨q2.1, flf_tr (flf_4 m1) q2.2⟩)
    · exact ev_mono (kk 1 (Or.inr rfl)) (fun x S2 q2 => ⟨q2.1, flf_tr (flf_4 m1) q2.2⟩)
  | inr r1 =>
    rw [ho] at q1
    have kk := fun (g : Int) hg => rd_71 (d := d) (g := g) (k := k) q1 hs (by omega) (f4_sv hk m1 gSh430) hk2 hl hg
    by_cases c : g = 116
    · rw [if_pos c]
      refine ev_ite (fun z => absurd c z) (fun _ => ?_)
      exact ev_mono (kk 1 (Or.inr rfl)) (fun x S2 q2 => lfq_since (flf_4 m1) q2)
    · rw [if_neg c]
      refine ev_ite (fun _ => ?_) (fun z => absurd c z)
      exact ev_mono (kk 0 (Or.inl rfl)) (fun x S2 q2 => lfq_since (flf_4 m1) q2)
theorem rd_const (h : RdC c2 s how S0 r b V S) (hs : SrcOK c2 s) (hd : 8 ≤ d) (hk : SV S 430 k) (hk2 : ∀ x ∈ k, x < 256) (hl : V.length < 100) : Ev (fun n => f_X6_constant n d 0 S [hdI r]) (LfQ c2 s how S0 S b V k (rdC r)) := by
  have e := sf_le h.2.2.1
  have hr := hdI_r hs h.2.2.1
  have hi : inr (hdI r) := by constructor <;> omega
  have k13 := rd_53 (d := d) (g := 116) (t := 13) h hs (by omega) hk hk2 hl (by decide) (by decide +kernel) (by decide)
  have k14 := rd_53 (d := d) (g := 102) (t := 14) h hs (by omega) hk hk2 hl (by decide) (by decide +kernel) (by decide)
  rw [if_pos rfl] at k13
  rw [if_neg (by decide)] at k14
  unfold rdC
  by_cases c1 : hdI r = 110
  · rw [if_pos c1]
    refine ev_up (fun n => e_X6_constant_0) ?_
    unfold b_X6_constant_0
    repeat' (first
      | with_reducible refine ev_gv ?_
      | with_reducible refine ev_gg ?_ ?_
      | with_reducible refine ev_ite (fun _ => ?_) (fun _ => ?_)
      | omega
      | assumption)
    refine ev_gc (rd_passAll (d := d - 1) (t := 12) h hs (by decide) (by omega) (by decide +kernel)) (fun _ S1 q1 => ?_)
    obtain ⟨q1, m1⟩ := q1
    cases ho : rdW (sx 12) r with
    | inl q =>
      rw [ho] at q1
      refine ev_gc (fl_begin (d := d - 1) (kd := 0) q1 hs (by omega) (by decide)) (fun x S2 q2 => ?_)
      exact ev_ret ⟨q2.1, flf_tr (flf_4 m1) (flf_t q2.2)⟩
    | inr r1 =>
      rw [ho] at q1
      refine ev_gc (rd_begin (d := d - 1) (kd := 0) q1 hs (by omega) (f4_sv hk m1 gSh430) hk2 hl (by decide)) (fun x S2 q2 => ?_)
      exact ev_ret ⟨⟨q2.1, q2.2.1⟩, flf_tr (flf_4 m1) (flf_t q2.2.2)⟩
  rw [if_neg c1]
  by_cases c2' : hdI r = 116
  · rw [if_pos c2']
    refine ev_up (fun n => e_X6_constant_0) ?_
    unfold b_X6_constant_0
    rw [c2']
    repeat' (first
      | with_reducible refine ev_gv ?_
      | with_reducible refine ev_gg ?_ ?_
      | with_reducible refine ev_ite (fun _ => ?_) (fun _ => ?_)
      | omega
      | assumption)
    all_goals exact k13
  rw [if_neg c2']
  by_cases c3 : hdI r = 102
  · rw [if_pos c3]
    refine ev_up (fun n => e_X6_constant_0) ?_
    unfold b_X6_constant_0
    rw [c3]
    repeat' (first
      | with_reducible refine ev_gv ?_
      | with_reducible refine ev_gg ?_ ?_
      | with_reducible refine ev_ite (fun _ => ?_) (fun _ => ?_)
      | omega
      | assumption)
    all_goals exact k14
  · rw [if_neg c3]
    refine ev_up (fun n => e_X6_constant_0) ?_
    unfold b_X6_constant_0
    repeat' (first
      | with_reducible refine ev_gv ?_
      | with_reducible refine ev_gg ?_ ?_
      | with_reducible refine ev_ite (fun _ => ?_) (fun _ => ?_)
      | omega
      | assumption)
    refine ev_gc (rd_fail (d := d - 1) h hs (p := S.1 470 7) (by omega)) (fun x S1 q1 => ?_)
    obtain ⟨-, u, v⟩ := q1
    rw [e.2.2.1] at u
    exact ev_ret ⟨u, flf_4 v⟩
end RB
