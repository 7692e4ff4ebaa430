/-! THE REFERENCE: two NUMBERS compared -/
theorem dg_N {V : List ND} {i p : Nat} (k2 : nk V i = 2) (hi : i < V.length) : dgI V (i : Int) (p : Int) = if p < (sgN (V.getD i nd0)).length then (sgN (V.getD i nd0)).getD p 0 else 48 := by
  have k : (V.getD i nd0).1 = 2 := k2
  unfold dgI
  rw [tI_n hi, atD_hd]
  unfold sgN
  by_cases c : hdI (nt V i) = 45
  · rw [if_pos c, if_pos (show (V.getD i nd0).1 = 2 ∧ hdI (V.getD i nd0).2.2.2.1 = 45 from ⟨k, c⟩)]
    show _ = if p < (nt V i).tail.length then (nt V i).tail.getD p 0 else 48
    have e := hd_cons c
    generalize hX : (nt V i).tail = X at e ⊢
    rw [e]
    rw [List.length_cons]
    by_cases q : p < X.length
    · rw [if_pos q, if_pos (by omega), show (p : Int) + 1 = ((p + 1 : Nat) : Int) by omega, atD_nat (by rw [List.length_cons]; omega)]
      simp
    · rw [if_neg q, if_neg (by omega)]
  · rw [if_neg c, if_neg (show ¬ ((V.getD i nd0).1 = 2 ∧ hdI (V.getD i nd0).2.2.2.1 = 45) from fun y => c y.2)]
    show _ = if p < (nt V i).length then (nt V i).getD p 0 else 48
    rw [Int.add_zero]
    by_cases q : p < (nt V i).length
    · rw [if_pos q, if_pos (by omega), atD_nat q]
    · rw [if_neg q, if_neg (by omega)]
theorem fg_N {V : List ND} {i : Nat} (k2 : nk V i = 2) (hi : i < V.length) : fgI V (i : Int) = ((sgN (V.getD i nd0)).length : Int) := by
  have k : (V.getD i nd0).1 = 2 := k2
  unfold fgI
  rw [if_pos (show nmI V (i : Int) from ⟨by omega, by rw [Int.toNat_natCast]; exact k2⟩), tI_n hi, atD_hd]
  unfold sgN
  by_cases q : hdI (nt V i) = 45
  · rw [if_pos q, if_pos (show (V.getD i nd0).1 = 2 ∧ hdI (V.getD i nd0).2.2.2.1 = 45 from ⟨k, q⟩)]
    show _ = ((nt V i).tail.length : Int)
    have e := congrArg List.length (hd_cons q)
    rw [List.length_cons, List.length_tail] at e
    rw [List.length_tail]
    omega
  · rw [if_neg q, if_neg (show ¬ ((V.getD i nd0).1 = 2 ∧ hdI (V.getD i nd0).2.2.2.1 = 45) from fun y => q y.2)]
    show _ = ((nt V i).length : Int)
    omega
theorem pw_N {V : List ND} {i : Nat} (k2 : nk V i = 2) (hi : i < V.length) : pwI V (i : Int) = pwN (V.getD i nd0) := by
  have k : (V.getD i nd0).1 = 2 := k2
  unfold pwI pwN
  rw [if_pos (show nmI V (i : Int) from ⟨by omega, by rw [Int.toNat_natCast]; exact k2⟩), if_pos k]
  rfl
theorem is_N {V : List ND} {i : Nat} (k2 : nk V i = 2) (hi : i < V.length) (nb : nt V i ≠ []) : sgI V (i : Int) = isN (V.getD i nd0) := by
  have k : (V.getD i nd0).1 = 2 := k2
  unfold sgI isN
  rw [if_pos k, tI_n hi, atD_hd]
  by_cases q : hdI (nt V i) = 45
  · rw [if_pos q, if_pos (show hdI (V.getD i nd0).2.2.2.1 = 45 from q)]
  · rw [if_neg q, if_neg (show ¬ hdI (V.getD i nd0).2.2.2.1 = 45 from q)]
    by_cases q2 : hdI (nt V i) = 48
    · rw [if_pos (Or.inl (show hdI (V.getD i nd0).2.2.2.1 = 48 from q2)), if_pos q2]
    · rw [if_neg (show ¬ (hdI (V.getD i nd0).2.2.2.1 = 48 ∨ (V.getD i nd0).2.2.2.1 = []) from fun y => y.elim q2 nb), if_neg q2]
theorem isN_r {V : List ND} {i : Nat} (k2 : nk V i = 2) : -1 ≤ isN (V.getD i nd0) ∧ isN (V.getD i nd0) ≤ 1 := by
  have k : (V.getD i nd0).1 = 2 := k2
  unfold isN
  rw [if_pos k]
  split
  · decide
  · split <;> decide
section CMD
variable {S : GS} {d K F : Nat} {V U : List ND}
theorem q_compared {k i f j : Int} {I J : Nat} (hd : 1 ≤ d) (hk : k = (K : Int)) (hK : K < 48) (hi : i = (I : Int)) (hf : f = (F : Int)) (hF : F < 48) (hj : j = (J : Int)) (hL : LK S K V) (hM : LK S F U) (hI : I < V.length) (hJ : J < U.length) (kI : nk V I = 2) (kJ : nk U J = 2) (nI : nt V I ≠ []) (nJ : nt U J ≠ []) : Rd (fun n => f_X12_compared n d 0 S [k, i, f, j]) (onI V I U J) S := by
  subst hk hi hf hj
  have l1 := hL.2.1
  have l2 := hM.2.1
  obtain ⟨-, -, -, A18, A19, A20, A21⟩ := (hL.2.2.1 I hI).1
  obtain ⟨-, -, -, B18, B19, B20, B21⟩ := (hM.2.2.1 J hJ).1
  have ta := lk_txt hL hI
  have tb := lk_txt hM hJ
  have pa : pwN (V.getD I nd0) = np V I := by unfold pwN; rw [if_pos (show (V.getD I nd0).1 = 2 from kI)]; rfl
  have pb : pwN (U.getD J nd0) = np U J := by unfold pwN; rw [if_pos (show (U.getD J nd0).1 = 2 from kJ)]; rfl
  have ra : -200 ≤ np V I ∧ np V I ≤ 200 := ⟨(hL.2.2.2 _ (nd_mem hI)).2.2.2.2.1, (hL.2.2.2 _ (nd_mem hI)).2.2.2.2.2.1⟩
  have rb : -200 ≤ np U J ∧ np U J ≤ 200 := ⟨(hM.2.2.2 _ (nd_mem hJ)).2.2.2.2.1, (hM.2.2.2 _ (nd_mem hJ)).2.2.2.2.2.1⟩
  have ia := is_N kI hI nI
  have ib := is_N kJ hJ nJ
  have xa := isN_r kI
  have xb := isN_r kJ
  have da := fun p : Nat => dg_N (p := p) kI hI
  have db := fun p : Nat => dg_N (p := p) kJ hJ
  unfold onI
  rw [ia, ib, fg_N kI hI, fg_N kJ hJ, pw_N kI hI, pw_N kJ hJ]
  rw [pa] at A20 ⊢
  rw [pb] at B20 ⊢
  generalize isN (V.getD I nd0) = sa at *
  generalize isN (U.getD J nd0) = sb at *
  generalize sgN (V.getD I nd0) = X at *
  generalize sgN (U.getD J nd0) = Y at *
  generalize np V I = P at *
  generalize np U J = R at *
  have p240 : ∀ a7 s0 : Int, s0 = ord3 a7 0 → Rd (fun n => f_X12_compared n d 240 S [(101 * (K : Int) + (I : Int)) * 61, s0]) (sa * ord3 a7 0) S := by
    intro a7 s0 hs
    refine ev_up (fun n => e_X12_compared_240) ?_
    unfold b_X12_compared_240
    refine ev_gv ?_
    refine ev_gg (by first | omega | (constructor <;> omega)) ?_
    refine ev_gv ?_
    rw [show ((101 * (K : Int) + (I : Int)) * 61 + 19).toNat = 6161 * K + 61 * I + 19 by omega, A19]
    refine ev_gv ?_
    exact ev_ret ⟨by rw [hs], rfl⟩
  have p221 : ∀ a7 : Int, -1000 ≤ a7 ∧ a7 ≤ 1000 → Rd (fun n => f_X12_compared n d 221 S [(101 * (K : Int) + (I : Int)) * 61, a7]) (sa * ord3 a7 0) S := by
    intro a7 ha
    refine ev_up (fun n => e_X12_compared_221) ?_
    unfold b_X12_compared_221
    refine ev_gg (by first | omega | (constructor <;> omega)) ?_
    refine ev_ite (fun z => ?_) (fun z => ?_)
    · refine ev_ite (fun z1 => ?_) (fun z1 => ?_)
      · exact p240 a7 0 (by unfold ord3; omega)
      · exact p240 a7 1 (by unfold ord3; omega)
    · exact p240 a7 (-1) (by unfold ord3; omega)
  have lp : ∀ (t p : Nat) (a7 : Int), p + t = 24 → (-1000 ≤ a7 ∧ a7 ≤ 1000) → Rd (fun n => f_X12_compared n d 130 S [(101 * (K : Int) + (I : Int)) * 61, (101 * (F : Int) + (J : Int)) * 61, a7, (p : Int)]) (sa * oD V I U J t p (ord3 a7 0)) S := by
    intro t
    induction t with
    | zero =>
      intro p a7 hp ha
      refine ev_up (fun n => e_X12_compared_130) ?_
      unfold b_X12_compared_130
      refine ev_gg (by first | omega | (constructor <;> omega)) ?_
      refine ev_ite (fun _ => ?_) (fun z => by omega)
      exact p221 a7 ha
    | succ t ih =>
      intro p a7 hp ha
      unfold oD
      refine ev_up (fun n => e_X12_compared_130) ?_
      unfold b_X12_compared_130
      refine ev_gg (by first | omega | (constructor <;> omega)) ?_
      refine ev_ite (fun z => by omega) (fun _ => ?_)
      refine ev_gg (by first | omega | (constructor <;> omega)) ?_
      refine ev_ite (fun z => ?_) (fun z => ?_)
      · rw [if_pos (by unfold ord3; omega)]
        exact p221 a7 ha
      · rw [if_neg (by unfold ord3; omega), da p, db p]
        have p175 : ∀ s0 : Int, s0 = (if p < X.length then X.getD p 0 else 48) → 0 ≤ s0 ∧ s0 < 256 → Rd (fun n => f_X12_compared n d 175 S [(101 * (K : Int) + (I : Int)) * 61, (101 * (F : Int) + (J : Int)) * 61, (p : Int), s0]) (sa * oD V I U J t (p + 1) (ord3 (if p < X.length then X.getD p 0 else 48) (if p < Y.length then Y.getD p 0 else 48))) S := by
          intro s0 hs hr
          rw [← hs]
          refine ev_up (fun n => e_X12_compared_175) ?_
          unfold b_X12_compared_175
          refine ev_gv ?_
          refine ev_gg (by first | omega | (constructor <;> omega)) ?_
          refine ev_gv ?_
          rw [show ((101 * (F : Int) + (J : Int)) * 61 + 18).toNat = 6161 * F + 61 * J + 18 by omega, B18]
          refine ev_gg (by first | omega | (constructor <;> omega)) ?_
          refine ev_gg (by first | omega | (constructor <;> omega)) ?_
          have e1 : (p : Int) + 1 = ((p + 1 : Nat) : Int) := by omega
          refine ev_ite (fun q => ?_) (fun q => ?_)
          · refine ev_gv ?_
            refine ev_gv ?_
            rw [if_neg (by omega), e1]
            have : ord3 s0 48 = ord3 (s0 - 48) 0 := by unfold ord3; omega
            rw [this]
            exact ih (p + 1) (s0 - 48) (by omega) (by constructor <;> omega)
          · refine ev_gv ?_
            refine ev_gv ?_
            refine ev_gg (by first | omega | (constructor <;> omega)) ?_
            refine ev_gv ?_
            rw [show ((101 * (F : Int) + (J : Int)) * 61 + 21 + (p : Int)).toNat = 6161 * F + 61 * J + 21 + p by omega, B21 p (by omega)]
            refine ev_gv ?_
            refine ev_gv ?_
            have yr := tb.2 _ (getD_in (q := Y) (t := p) (by omega))
            rw [if_pos (by omega), e1]
            have : ord3 s0 (Y.getD p 0) = ord3 (s0 - Y.getD p 0) 0 := by unfold ord3; omega
            rw [this]
            exact ih (p + 1) (s0 - Y.getD p 0) (by omega) (by constructor <;> omega)
        refine ev_gv ?_
        refine ev_gg (by first | omega | (constructor <;> omega)) ?_
        refine ev_gv ?_
        rw [show ((101 * (K : Int) + (I : Int)) * 61 + 18).toNat = 6161 * K + 61 * I + 18 by omega, A18]
        refine ev_gg (by first | omega | (constructor <;> omega)) ?_
        refine ev_ite (fun q => ?_) (fun q => ?_)
        · exact p175 48 (by rw [if_neg (by omega)]) (by decide)
        · refine ev_gv ?_
          refine ev_gv ?_
          refine ev_gg (by first | omega | (constructor <;> omega)) ?_
          refine ev_gv ?_
          rw [show ((101 * (K : Int) + (I : Int)) * 61 + 21 + (p : Int)).toNat = 6161 * K + 61 * I + 21 + p by omega, A21 p (by omega)]
          have xr := ta.2 _ (getD_in (q := X) (t := p) (by omega))
          exact p175 _ (by rw [if_pos (by omega)]) xr
  refine ev_up (fun n => e_X12_compared_0) ?_
  unfold b_X12_compared_0
  refine ev_gg (by first | omega | (constructor <;> omega)) ?_
  refine ev_gcr (q_at) ?_
  refine ev_gcr (q_at) ?_
  refine ev_gv ?_
  refine ev_gg (by first | omega | (constructor <;> omega)) ?_
  refine ev_gv ?_
  rw [show ((101 * (K : Int) + (I : Int)) * 61 + 19).toNat = 6161 * K + 61 * I + 19 by omega, A19]
  refine ev_gv ?_
  refine ev_gg (by first | omega | (constructor <;> omega)) ?_
  refine ev_gv ?_
  rw [show ((101 * (F : Int) + (J : Int)) * 61 + 19).toNat = 6161 * F + 61 * J + 19 by omega, B19]
  refine ev_gg (by first | omega | (constructor <;> omega)) ?_
  refine ev_gg (by first | omega | (constructor <;> omega)) ?_
  refine ev_ite (fun z => ?_) (fun z => ?_)
  · refine ev_gv ?_
    refine ev_gg (by first | omega | (constructor <;> omega)) ?_
    refine ev_gv ?_
    rw [show ((101 * (K : Int) + (I : Int)) * 61 + 19).toNat = 6161 * K + 61 * I + 19 by omega, A19]
    refine ev_gg (by first | omega | (constructor <;> omega)) ?_
    refine ev_ite (fun z1 => ?_) (fun z1 => ?_)
    · refine ev_gv ?_
      refine ev_gg (by first | omega | (constructor <;> omega)) ?_
      refine ev_gv ?_
      rw [show ((101 * (K : Int) + (I : Int)) * 61 + 18).toNat = 6161 * K + 61 * I + 18 by omega, A18]
      refine ev_gv ?_
      refine ev_gg (by first | omega | (constructor <;> omega)) ?_
      refine ev_gv ?_
      rw [show ((101 * (K : Int) + (I : Int)) * 61 + 20).toNat = 6161 * K + 61 * I + 20 by omega, A20]
      refine ev_gv ?_
      refine ev_gv ?_
      refine ev_gg (by first | omega | (constructor <;> omega)) ?_
      refine ev_gv ?_
      rw [show ((101 * (F : Int) + (J : Int)) * 61 + 18).toNat = 6161 * F + 61 * J + 18 by omega, B18]
      refine ev_gv ?_
      refine ev_gv ?_
      refine ev_gg (by first | omega | (constructor <;> omega)) ?_
      refine ev_gv ?_
      rw [show ((101 * (F : Int) + (J : Int)) * 61 + 20).toNat = 6161 * F + 61 * J + 20 by omega, B20]
      refine ev_gv ?_
      rw [if_neg (by omega)]
      have e : ord3 ((X.length : Int) + P) ((Y.length : Int) + R) = ord3 ((X.length : Int) + P - (Y.length : Int) - R) 0 := by unfold ord3; omega
      rw [e]
      exact lp 24 0 ((X.length : Int) + P - (Y.length : Int) - R) rfl (by constructor <;> omega)
    · rw [if_pos (Or.inr (by omega))]
      exact ev_ret ⟨by unfold ord3; omega, rfl⟩
  · rw [if_pos (Or.inl z)]
    refine ev_gv ?_
    refine ev_gg (by first | omega | (constructor <;> omega)) ?_
    refine ev_gv ?_
    rw [show ((101 * (K : Int) + (I : Int)) * 61 + 19).toNat = 6161 * K + 61 * I + 19 by omega, A19]
    refine ev_gv ?_
    refine ev_gg (by first | omega | (constructor <;> omega)) ?_
    refine ev_gv ?_
    rw [show ((101 * (F : Int) + (J : Int)) * 61 + 19).toNat = 6161 * F + 61 * J + 19 by omega, B19]
    refine ev_gg (by first | omega | (constructor <;> omega)) ?_
    refine ev_gg (by first | omega | (constructor <;> omega)) ?_
    refine ev_ite (fun z1 => ?_) (fun z1 => ?_)
    · exact ev_ret ⟨by unfold ord3; omega, rfl⟩
    · exact ev_ret ⟨by unfold ord3; omega, rfl⟩
end CMD
section CMD2
variable {S0 S S1 : GS} {T0 : List ND} {Ds : List (List ND)} {pg pp : List Int} {r : Int} {L : List Nat} {Q : List (List Int)} {C : List (Int × Int)} {d : Nat}
theorem r_compare {a b : Int} (hd : 5 ≤ d) (ha : inr a) (hb : inr b) (h : RfS S0 T0 Ds pg pp r L Q C S) : Ev (fun n => f_X12_compare n d 0 S [a, b]) (fun x S1 => (if hasD Ds a ∧ hasD Ds b then (if kdI (atD' Ds a) 0 = 2 ∧ kdI (atD' Ds b) 0 = 2 then x = onI (atD' Ds a) 0 (atD' Ds b) 0 ∧ S1.1 500 0 = 0 else S1.1 500 0 = 2) else S1.1 500 0 = 1) ∧ RfS S0 T0 Ds pg pp r L Q C S1) := by
  have p22 : ∀ s : Int, s = (if hasD Ds a ∧ hasD Ds b then 1 else 0) → Ev (fun n => f_X12_compare n d 22 S [a, b, s]) (fun x S1 => (if hasD Ds a ∧ hasD Ds b then (if kdI (atD' Ds a) 0 = 2 ∧ kdI (atD' Ds b) 0 = 2 then x = onI (atD' Ds a) 0 (atD' Ds b) 0 ∧ S1.1 500 0 = 0 else S1.1 500 0 = 2) else S1.1 500 0 = 1) ∧ RfS S0 T0 Ds pg pp r L Q C S1) := by
    intro s hs
    refine ev_up (fun n => e_X12_compare_22) ?_
    unfold b_X12_compare_22
    refine ev_gg (by first | omega | (constructor <;> omega)) ?_
    refine fa_c hs h (fun c S1 t1 f1 h1 => ?_) (fun c S1 t1 f1 h1 => ?_)
    · obtain ⟨e1, e2, e3, e4⟩ := r_at h1 c.1
      obtain ⟨g1, g2, g3, g4⟩ := r_at h1 c.2
      refine ev_gg (by decide) ?_
      refine ev_ite (fun z => by omega) (fun _ => ?_)
      simp only [if_pos c]
      have lk : ∀ S3, RfS S0 T0 Ds pg pp r L Q C S3 → LK S3 a.toNat (atD' Ds a) ∧ LK S3 b.toNat (atD' Ds b) := fun S3 g => ⟨(r_at g c.1).2.2.1, (r_at g c.2).2.2.1⟩
      generalize atD' Ds a = V at *
      generalize atD' Ds b = U at *
      have la := e4.1.1.1.2.1
      have lb := g4.1.1.1.2.1
      have va := (e4.1.2.1 _ (nd_mem la)).2
      have vb := (g4.1.2.1 _ (nd_mem lb)).2
      have ka : kdI V 0 = nk V 0 := by unfold kdI; rw [if_pos (by omega)]; rfl
      have kb : kdI U 0 = nk U 0 := by unfold kdI; rw [if_pos (by omega)]; rfl
      simp only [ka, kb]
      have nra := e3.2.2.2 _ (nd_mem la)
      have nrb := g3.2.2.2 _ (nd_mem lb)
      have kra : 0 ≤ nk V 0 ∧ nk V 0 ≤ 5 := ⟨nra.1, nra.2.1⟩
      have krb : 0 ≤ nk U 0 ∧ nk U 0 ≤ 5 := ⟨nrb.1, nrb.2.1⟩
      have p55 : ∀ s : Int, s = (if nk V 0 = 2 ∧ nk U 0 = 2 then 1 else 0) → Ev (fun n => f_X12_compare n d 55 S1 [a, b, s]) (fun x S1 => (if nk V 0 = 2 ∧ nk U 0 = 2 then x = onI V 0 U 0 ∧ S1.1 500 0 = 0 else S1.1 500 0 = 2) ∧ RfS S0 T0 Ds pg pp r L Q C S1) := by
        intro s hs
        refine ev_up (fun n => e_X12_compare_55) ?_
        unfold b_X12_compare_55
        refine ev_gg (by first | omega | (constructor <;> omega)) ?_
        refine fa_c hs h1 (fun c2 S2 t2 f2 h2 => ?_) (fun c2 S2 t2 f2 h2 => ?_)
        · refine ev_gg (by decide) ?_
          refine ev_ite (fun _ => ?_) (fun z => by omega)
          have nba : nt V 0 ≠ [] := by
            have k2 : (V.getD 0 nd0).1 = 2 := c2.1
            rcases va with q | q | q | q | q
            · have := q.1; omega
            · have := q.1; omega
            · exact nb_ne q.2
            · have := q.1; omega
            · have := q.1; omega
          have nbb : nt U 0 ≠ [] := by
            have k2 : (U.getD 0 nd0).1 = 2 := c2.2
            rcases vb with q | q | q | q | q
            · have := q.1; omega
            · have := q.1; omega
            · exact nb_ne q.2
            · have := q.1; omega
            · have := q.1; omega
          refine ev_gcr (q_compared (d := d - 1) (K := a.toNat) (I := 0) (F := b.toNat) (J := 0) (by omega) e1 (by omega) rfl g1 (by omega) rfl (lk S2 h2).1 (lk S2 h2).2 la lb c2.1 c2.2 nba nbb) ?_
          refine ev_ret ⟨?_, h2⟩
          rw [if_pos c2]
          exact ⟨rfl, t2⟩
        · refine ev_gg (by decide) ?_
          refine ev_ite (fun z => by omega) (fun _ => ?_)
          refine ev_ret ⟨?_, h2⟩
          rw [if_neg c2]
          exact t2
      refine ev_gcr (q_kindL (d := d - 1) (K := a.toNat) (I := 0) (by omega) e1 (by omega) rfl e3 la) ?_
      refine ev_gg (by first | omega | (constructor <;> omega)) ?_
      refine ev_ite (fun z => ?_) (fun z => ?_)
      · exact p55 0 (by rw [if_neg (fun y => z y.1)])
      · refine ev_gcr (q_kindL (d := d - 1) (K := b.toNat) (I := 0) (by omega) g1 (by omega) rfl g3 lb) ?_
        refine ev_gg (by first | omega | (constructor <;> omega)) ?_
        refine ev_ite (fun z1 => ?_) (fun z1 => ?_)
        · exact p55 0 (by rw [if_neg (fun y => z1 y.2)])
        · exact p55 1 (by rw [if_pos ⟨by omega, by omega⟩])
    · refine ev_gg (by decide) ?_
      refine ev_ite (fun _ => ?_) (fun z => by omega)
      refine ev_ret ⟨?_, h1⟩
      rw [if_neg c]
      exact t1
  refine ev_up (fun n => e_X12_compare_0) ?_
  unfold b_X12_compare_0
  refine ev_gg (by first | omega | (constructor <;> omega)) ?_
  refine ev_gcr (r_isDoc (d := d - 1) (by omega) ha h) ?_
  by_cases c : hasD Ds a
  · rw [if_pos c]
    refine ev_gg (by decide) ?_
    refine ev_ite (fun z => by omega) (fun _ => ?_)
    refine ev_gcr (r_isDoc (d := d - 1) (by omega) hb h) ?_
    by_cases c2 : hasD Ds b
    · rw [if_pos c2]
      refine ev_gg (by decide) ?_
      refine ev_ite (fun z => by omega) (fun _ => ?_)
      exact p22 1 (by rw [if_pos ⟨c, c2⟩])
    · rw [if_neg c2]
      refine ev_gg (by decide) ?_
      refine ev_ite (fun _ => ?_) (fun z => by omega)
      exact p22 0 (by rw [if_neg (fun z => c2 z.2)])
  · rw [if_neg c]
    refine ev_gg (by decide) ?_
    refine ev_ite (fun _ => ?_) (fun z => by omega)
    exact p22 0 (by rw [if_neg (fun z => c z.1)])
end CMD2
