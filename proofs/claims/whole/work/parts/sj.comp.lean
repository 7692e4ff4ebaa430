/-! THE REFERENCE: NUMBERS compared by their cells; a count beside a NUMBER -/
section CMN
variable {S : GS} {d K F : Nat} {V U : List ND}
theorem q_comparedN {k i f j : Int} {I J : Nat} (hd : 1 ≤ d) (hk : k = (K : Int)) (hK : K < 48) (hi : i = (I : Int)) (hf : f = (F : Int)) (hF : F < 48) (hj : j = (J : Int)) (hA : NuC S (6161 * K + 61 * I) (V.getD I nd0)) (hB : NuC S (6161 * F + 61 * J) (U.getD J nd0)) (l1 : V.length ≤ 100) (l2 : U.length ≤ 100) (ta : (sgN (V.getD I nd0)).length ≤ 40 ∧ ∀ z ∈ sgN (V.getD I nd0), 0 ≤ z ∧ z < 256) (tb : (sgN (U.getD J nd0)).length ≤ 40 ∧ ∀ z ∈ sgN (U.getD J nd0), 0 ≤ z ∧ z < 256) (ra : -200 ≤ np V I ∧ np V I ≤ 200) (rb : -200 ≤ np U J ∧ np U J ≤ 200) (hI : I < V.length) (hJ : J < U.length) (kI : nk V I = 2) (kJ : nk U J = 2) (nI : nt V I ≠ []) (nJ : nt U J ≠ []) : Rd (fun n => f_X12_compared n d 0 S [k, i, f, j]) (onI V I U J) S := by
  subst hk hi hf hj
  obtain ⟨A18, A19, A20, A21⟩ := hA
  obtain ⟨B18, B19, B20, B21⟩ := hB
  have pa : pwN (V.getD I nd0) = np V I := by unfold pwN; rw [if_pos (show (V.getD I nd0).1 = 2 from kI)]; rfl
  have pb : pwN (U.getD J nd0) = np U J := by unfold pwN; rw [if_pos (show (U.getD J nd0).1 = 2 from kJ)]; rfl
  have ia := is_N kI hI nI
  have ib := is_N kJ hJ nJ
  have xa := isN_r kI
  have xb := isN_r kJ
  have da := fun p : Nat => dg_N (p := p) kI hI
  have db := fun p : Nat => dg_N (p := p) kJ hJ
  unfold onI
  rw [ia, ib, fg_N kI hI, fg_N kJ hJ, pw_N kI hI, pw_N kJ hJ]
  rw [pa] at A20 ⊢
  rw [pb] at B20 ⊢
  generalize isN (V.getD I nd0) = sa at *
  generalize isN (U.getD J nd0) = sb at *
  generalize sgN (V.getD I nd0) = X at *
  generalize sgN (U.getD J nd0) = Y at *
  generalize np V I = P at *
  generalize np U J = R at *
  have p240 : ∀ a7 s0 : Int, s0 = ord3 a7 0 → Rd (fun n => f_X12_compared n d 240 S [(101 * (K : Int) + (I : Int)) * 61, s0]) (sa * ord3 a7 0) S := by
    intro a7 s0 hs
    refine ev_up (fun n => e_X12_compared_240) ?_
    unfold b_X12_compared_240
    refine ev_gv ?_
    refine ev_gg (by first | omega | (constructor <;> omega)) ?_
    refine ev_gv ?_
    rw [show ((101 * (K : Int) + (I : Int)) * 61 + 19).toNat = 6161 * K + 61 * I + 19 by omega, A19]
    refine ev_gv ?_
    exact ev_ret ⟨by rw [hs], rfl⟩
  have p221 : ∀ a7 : Int, -1000 ≤ a7 ∧ a7 ≤ 1000 → Rd (fun n => f_X12_compared n d 221 S [(101 * (K : Int) + (I : Int)) * 61, a7]) (sa * ord3 a7 0) S := by
    intro a7 ha
    refine ev_up (fun n => e_X12_compared_221) ?_
    unfold b_X12_compared_221
    refine ev_gg (by first | omega | (constructor <;> omega)) ?_
    refine ev_ite (fun z => ?_) (fun z => ?_)
    · refine ev_ite (fun z1 => ?_) (fun z1 => ?_)
      · exact p240 a7 0 (by unfold ord3; omega)
      · exact p240 a7 1 (by unfold ord3; omega)
    · exact p240 a7 (-1) (by unfold ord3; omega)
  have lp : ∀ (t p : Nat) (a7 : Int), p + t = 24 → (-1000 ≤ a7 ∧ a7 ≤ 1000) → Rd (fun n => f_X12_compared n d 130 S [(101 * (K : Int) + (I : Int)) * 61, (101 * (F : Int) + (J : Int)) * 61, a7, (p : Int)]) (sa * oD V I U J t p (ord3 a7 0)) S := by
    intro t
    induction t with
    | zero =>
      intro p a7 hp ha
      refine ev_up (fun n => e_X12_compared_130) ?_
      unfold b_X12_compared_130
      refine ev_gg (by first | omega | (constructor <;> omega)) ?_
      refine ev_ite (fun _ => ?_) (fun z => by omega)
      exact p221 a7 ha
    | succ t ih =>
      intro p a7 hp ha
      unfold oD
      refine ev_up (fun n => e_X12_compared_130) ?_
      unfold b_X12_compared_130
      refine ev_gg (by first | omega | (constructor <;> omega)) ?_
      refine ev_ite (fun z => by omega) (fun _ => ?_)
      refine ev_gg (by first | omega | (constructor <;> omega)) ?_
      refine ev_ite (fun z => ?_) (fun z => ?_)
      · rw [if_pos (by unfold ord3; omega)]
        exact p221 a7 ha
      · rw [if_neg (by unfold ord3; omega), da p, db p]
        have p175 : ∀ s0 : Int, s0 = (if p < X.length then X.getD p 0 else 48) → 0 ≤ s0 ∧ s0 < 256 → Rd (fun n => f_X12_compared n d 175 S [(101 * (K : Int) + (I : Int)) * 61, (101 * (F : Int) + (J : Int)) * 61, (p : Int), s0]) (sa * oD V I U J t (p + 1) (ord3 (if p < X.length then X.getD p 0 else 48) (if p < Y.length then Y.getD p 0 else 48))) S := by
          intro s0 hs hr
          rw [← hs]
          refine ev_up (fun n => e_X12_compared_175) ?_
          unfold b_X12_compared_175
          refine ev_gv ?_
          refine ev_gg (by first | omega | (constructor <;> omega)) ?_
          refine ev_gv ?_
          rw [show ((101 * (F : Int) + (J : Int)) * 61 + 18).toNat = 6161 * F + 61 * J + 18 by omega, B18]
          refine ev_gg (by first | omega | (constructor <;> omega)) ?_
          refine ev_gg (by first | omega | (constructor <;> omega)) ?_
          have e1 : (p : Int) + 1 = ((p + 1 : Nat) : Int) := by omega
          refine ev_ite (fun q => ?_) (fun q => ?_)
          · refine ev_gv ?_
            refine ev_gv ?_
            rw [if_neg (by omega), e1]
            have : ord3 s0 48 = ord3 (s0 - 48) 0 := by unfold ord3; omega
            rw [this]
            exact ih (p + 1) (s0 - 48) (by omega) (by constructor <;> omega)
          · refine ev_gv ?_
            refine ev_gv ?_
            refine ev_gg (by first | omega | (constructor <;> omega)) ?_
            refine ev_gv ?_
            rw [show ((101 * (F : Int) + (J : Int)) * 61 + 21 + (p : Int)).toNat = 6161 * F + 61 * J + 21 + p by omega, B21 p (by omega)]
            refine ev_gv ?_
            refine ev_gv ?_
            have yr := tb.2 _ (getD_in (q := Y) (t := p) (by omega))
            rw [if_pos (by omega), e1]
            have : ord3 s0 (Y.getD p 0) = ord3 (s0 - Y.getD p 0) 0 := by unfold ord3; omega
            rw [this]
            exact ih (p + 1) (s0 - Y.getD p 0) (by omega) (by constructor <;> omega)
        refine ev_gv ?_
        refine ev_gg (by first | omega | (constructor <;> omega)) ?_
        refine ev_gv ?_
        rw [show ((101 * (K : Int) + (I : Int)) * 61 + 18).toNat = 6161 * K + 61 * I + 18 by omega, A18]
        refine ev_gg (by first | omega | (constructor <;> omega)) ?_
        refine ev_ite (fun q => ?_) (fun q => ?_)
        · exact p175 48 (by rw [if_neg (by omega)]) (by decide)
        · refine ev_gv ?_
          refine ev_gv ?_
          refine ev_gg (by first | omega | (constructor <;> omega)) ?_
          refine ev_gv ?_
          rw [show ((101 * (K : Int) + (I : Int)) * 61 + 21 + (p : Int)).toNat = 6161 * K + 61 * I + 21 + p by omega, A21 p (by omega)]
          have xr := ta.2 _ (getD_in (q := X) (t := p) (by omega))
          exact p175 _ (by rw [if_pos (by omega)]) xr
  refine ev_up (fun n => e_X12_compared_0) ?_
  unfold b_X12_compared_0
  refine ev_gg (by first | omega | (constructor <;> omega)) ?_
  refine ev_gcr (q_at) ?_
  refine ev_gcr (q_at) ?_
  refine ev_gv ?_
  refine ev_gg (by first | omega | (constructor <;> omega)) ?_
  refine ev_gv ?_
  rw [show ((101 * (K : Int) + (I : Int)) * 61 + 19).toNat = 6161 * K + 61 * I + 19 by omega, A19]
  refine ev_gv ?_
  refine ev_gg (by first | omega | (constructor <;> omega)) ?_
  refine ev_gv ?_
  rw [show ((101 * (F : Int) + (J : Int)) * 61 + 19).toNat = 6161 * F + 61 * J + 19 by omega, B19]
  refine ev_gg (by first | omega | (constructor <;> omega)) ?_
  refine ev_gg (by first | omega | (constructor <;> omega)) ?_
  refine ev_ite (fun z => ?_) (fun z => ?_)
  · refine ev_gv ?_
    refine ev_gg (by first | omega | (constructor <;> omega)) ?_
    refine ev_gv ?_
    rw [show ((101 * (K : Int) + (I : Int)) * 61 + 19).toNat = 6161 * K + 61 * I + 19 by omega, A19]
    refine ev_gg (by first | omega | (constructor <;> omega)) ?_
    refine ev_ite (fun z1 => ?_) (fun z1 => ?_)
    · refine ev_gv ?_
      refine ev_gg (by first | omega | (constructor <;> omega)) ?_
      refine ev_gv ?_
      rw [show ((101 * (K : Int) + (I : Int)) * 61 + 18).toNat = 6161 * K + 61 * I + 18 by omega, A18]
      refine ev_gv ?_
      refine ev_gg (by first | omega | (constructor <;> omega)) ?_
      refine ev_gv ?_
      rw [show ((101 * (K : Int) + (I : Int)) * 61 + 20).toNat = 6161 * K + 61 * I + 20 by omega, A20]
      refine ev_gv ?_
      refine ev_gv ?_
      refine ev_gg (by first | omega | (constructor <;> omega)) ?_
      refine ev_gv ?_
      rw [show ((101 * (F : Int) + (J : Int)) * 61 + 18).toNat = 6161 * F + 61 * J + 18 by omega, B18]
      refine ev_gv ?_
      refine ev_gv ?_
      refine ev_gg (by first | omega | (constructor <;> omega)) ?_
      refine ev_gv ?_
      rw [show ((101 * (F : Int) + (J : Int)) * 61 + 20).toNat = 6161 * F + 61 * J + 20 by omega, B20]
      refine ev_gv ?_
      rw [if_neg (by omega)]
      have e : ord3 ((X.length : Int) + P) ((Y.length : Int) + R) = ord3 ((X.length : Int) + P - (Y.length : Int) - R) 0 := by unfold ord3; omega
      rw [e]
      exact lp 24 0 ((X.length : Int) + P - (Y.length : Int) - R) rfl (by constructor <;> omega)
    · rw [if_pos (Or.inr (by omega))]
      exact ev_ret ⟨by unfold ord3; omega, rfl⟩
  · rw [if_pos (Or.inl z)]
    refine ev_gv ?_
    refine ev_gg (by first | omega | (constructor <;> omega)) ?_
    refine ev_gv ?_
    rw [show ((101 * (K : Int) + (I : Int)) * 61 + 19).toNat = 6161 * K + 61 * I + 19 by omega, A19]
    refine ev_gv ?_
    refine ev_gg (by first | omega | (constructor <;> omega)) ?_
    refine ev_gv ?_
    rw [show ((101 * (F : Int) + (J : Int)) * 61 + 19).toNat = 6161 * F + 61 * J + 19 by omega, B19]
    refine ev_gg (by first | omega | (constructor <;> omega)) ?_
    refine ev_gg (by first | omega | (constructor <;> omega)) ?_
    refine ev_ite (fun z1 => ?_) (fun z1 => ?_)
    · exact ev_ret ⟨by unfold ord3; omega, rfl⟩
    · exact ev_ret ⟨by unfold ord3; omega, rfl⟩
/-- a NUMBER of a sound VALUE has signs -/
theorem vn_nt {T : List ND} {i : Nat} (h : SDC T) (hi : i < T.length) (k : nk T i = 2) : nt T i ≠ [] := by
  have v := (h.2.1 _ (nd_mem hi)).2
  have k' : (T.getD i nd0).1 = 2 := k
  intro z
  have z' : (T.getD i nd0).2.2.2.1 = [] := z
  rcases v with w | w | w | w | w
  · omega
  · omega
  · rcases w.2 with y | ⟨g, F, y1, _, y2, _⟩
    · rw [z'] at y; cases y.1
    · rw [z'] at y1
      have := congrArg List.length y1
      rw [List.length_append, List.length_nil] at this
      omega
  · omega
  · omega
theorem lk_nu {S : GS} {K I : Nat} {V : List ND} (h : LK S K V) (hI : I < V.length) : NuC S (6161 * K + 61 * I) (V.getD I nd0) := by
  obtain ⟨-, -, -, A18, A19, A20, A21⟩ := (h.2.2.1 I hI).1
  exact ⟨A18, A19, A20, A21⟩
abbrev bsP : Nat → Nat → Prop := fun c j => doP 40 c j ∨ c = 510
theorem q_beside {m i : Int} {J : Nat} {T : List ND} {node : Nat} (hd : 3 ≤ d) (hm : m = lnI T (node : Int)) (hr : 0 ≤ lnI T (node : Int) ∧ lnI T (node : Int) < 1000) (h62 : S.1 500 62 = (F : Int)) (hF : F < 48) (hne : F ≠ 40) (hL : LK S F U) (hU : SDC U) (hi : i = (J : Int)) (hJ : J < U.length) (kJ : nk U J = 2) : Ev (fun n => f_X12_beside n d 0 S [m, i]) (fun x S1 => x = onI (lnN T node) 0 U (J : Int) ∧ FC bsP S S1) := by
  subst hm hi
  have eV : lnN T node = [(2, 1, nmPw (wnum (lnI T (node : Int))) 0, nmSg 0 (wnum (lnI T (node : Int))), [])] := rfl
  generalize lnI T (node : Int) = v at hr eV ⊢
  rw [eV]
  have fg := F3_fg hr
  have ok := num3_ok (p := 0) hr (by decide)
  have n3 := num3 (p := 0) hr
  have r1 := nmSg_r (g := 0) fg.1 (by rw [fg.2]; decide)
  have r2 := nmPw_r ok
  have nb := nb_nm (g := 0) fg.1 (by rw [fg.2]; decide) ok
  rw [n3.1] at r1
  rw [n3.2] at r2
  rw [n3.1, n3.2] at nb
  have nn : nmSg 0 (wnum v) ≠ [] := fun z => by
    rcases nb with y | ⟨g, Fg, y1, _, y2, _⟩
    · rw [z] at y; cases y.1
    · rw [z] at y1
      have := congrArg List.length y1
      rw [List.length_append, List.length_nil] at this
      omega
  have l2 := hL.2.1
  refine ev_up (fun n => e_X12_beside_0) ?_
  unfold b_X12_beside_0
  refine ev_gg (by first | omega | (constructor <;> omega)) ?_
  refine ev_gc (q_begin1 (d := d - 1) (k := 40) (K := 40) rfl (by decide)) (fun _ S2 q2 => ?_)
  obtain ⟨m2, f2⟩ := q2
  refine ev_gc (q_added (d := d - 1) (K := 40) (kd := 2) (by omega) rfl (by decide) (by decide) m2) (fun x S3 q3 => ?_)
  obtain ⟨m3, f3, ye⟩ := q3
  have z40 : S2.1 502 40 = 0 := m2.2.1
  rw [z40] at ye
  subst ye
  refine ev_gg (by omega) ?_
  refine ev_gv ?_
  refine ev_gg (by decide) ?_
  refine ev_gv ?_
  refine ev_gg (by omega) ?_
  refine ev_gv ?_
  refine ev_gg (by omega) ?_
  refine ev_gv ?_
  refine ev_gg (by decide) ?_
  refine ev_gv ?_
  refine ev_gg (by omega) ?_
  refine ev_gv ?_
  refine ev_gg (by decide) ?_
  refine ev_gv ?_
  have f6 : FC (fun c j => c = 510) S3 (gI (gI (gI S3 510 (0 : Int).toNat (v / 100)) 510 (1 : Int).toNat (v / 10 % 10)) 510 (2 : Int).toNat (v % 10)) := fc_tr (fc_gI rfl) (fc_tr (fc_gI rfl) (fc_gI rfl))
  have c0 : (gI (gI (gI S3 510 (0 : Int).toNat (v / 100)) 510 (1 : Int).toNat (v / 10 % 10)) 510 (2 : Int).toNat (v % 10)).1 510 0 = v / 100 := by rw [gI_k (by decide), gI_k (by decide)]; exact gI_a
  have c1 : (gI (gI (gI S3 510 (0 : Int).toNat (v / 100)) 510 (1 : Int).toNat (v / 10 % 10)) 510 (2 : Int).toNat (v % 10)).1 510 1 = v / 10 % 10 := by rw [gI_k (by decide)]; exact gI_a
  have c2 : (gI (gI (gI S3 510 (0 : Int).toNat (v / 100)) 510 (1 : Int).toNat (v / 10 % 10)) 510 (2 : Int).toNat (v % 10)).1 510 2 = v % 10 := gI_a
  generalize gI (gI (gI S3 510 (0 : Int).toNat (v / 100)) 510 (1 : Int).toNat (v / 10 % 10)) 510 (2 : Int).toNat (v % 10) = S6 at f6 c0 c1 c2 ⊢
  have dg : DgS S6 (F3 v) := ⟨⟨by rw [fg.2]; decide, fg.1⟩, fun i hi => by
    rw [fg.2] at hi
    match i, hi with
    | 0, _ => rw [c0]; show _ = 48 + v / 100 - 48; omega
    | 1, _ => rw [c1]; show _ = 48 + v / 10 % 10 - 48; omega
    | 2, _ => rw [c2]; show _ = 48 + v % 10 - 48; omega⟩
  refine ev_gc (q_isNumber (d := d - 1) (i := 0) (I := 0) (F := F3 v) (q := []) (neg := 0) (m := 3) (p := 0) (by omega) rfl (by decide) (Or.inl rfl) (by rw [fg.2]; rfl) (by rw [fg.2]; decide) (by decide) dg) (fun y S7 q7 => ?_)
  obtain ⟨_, q7, f7⟩ := q7
  have nu := q7 ok
  rw [n3.1, n3.2] at nu
  have F27 : FC bsP S S7 := fc_tr (fc_mono f2 (fun c j z => by omega)) (fc_tr (fc_mono f3 (fun c j z => Or.inl z)) (fc_tr (fc_mono f6 (fun c j z => Or.inr z)) (fc_mono f7 (fun c j z => by omega))))
  have L7 : LK S7 F U := lk_fr hL F27 (fun j _ _ => by omega) (by omega)
  refine ev_gv ?_
  rw [fc_i F27 (by omega), h62]
  have nr := hL.2.2.2 _ (nd_mem hJ)
  have sg0 : sgN ([((2 : Int), 1, nmPw (wnum v) 0, nmSg 0 (wnum v), ([] : List Int))].getD 0 nd0) = (if hdI (nmSg 0 (wnum v)) = 45 then (nmSg 0 (wnum v)).tail else nmSg 0 (wnum v)) := by
    show (if (2 : Int) = 2 ∧ hdI (nmSg 0 (wnum v)) = 45 then (nmSg 0 (wnum v)).tail else nmSg 0 (wnum v)) = _
    by_cases z : hdI (nmSg 0 (wnum v)) = 45
    · rw [if_pos ⟨rfl, z⟩, if_pos z]
    · rw [if_neg (fun w => z w.2), if_neg z]
  have ta : (sgN ([((2 : Int), 1, nmPw (wnum v) 0, nmSg 0 (wnum v), ([] : List Int))].getD 0 nd0)).length ≤ 40 ∧ ∀ z ∈ sgN ([((2 : Int), 1, nmPw (wnum v) 0, nmSg 0 (wnum v), ([] : List Int))].getD 0 nd0), 0 ≤ z ∧ z < 256 := by
    rw [sg0]
    split
    · exact ⟨by rw [List.length_tail]; omega, fun z hz => r1.2 z (List.mem_of_mem_tail hz)⟩
    · exact r1
  refine ev_gcr (q_comparedN (d := d - 1) (k := 40) (i := 0) (K := 40) (I := 0) (F := F) (J := J) (V := [(2, 1, nmPw (wnum v) 0, nmSg 0 (wnum v), [])]) (U := U) (by omega) rfl (by decide) rfl rfl hF rfl nu (lk_nu L7 hJ) (show 1 ≤ 100 by decide) l2 ta (lk_txt L7 hJ) (by show -200 ≤ nmPw (wnum v) 0 ∧ nmPw (wnum v) 0 ≤ 200; omega) ⟨nr.2.2.2.2.1, nr.2.2.2.2.2.1⟩ (show 0 < 1 by decide) hJ rfl kJ nn (vn_nt hU hJ kJ)) ?_
  exact ev_ret ⟨rfl, F27⟩
end CMN
