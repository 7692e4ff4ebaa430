/-! p37: THE LAW -/
section XLW
variable {S : GS} {Ds : List (List ND)} {d : Nat} {XL : Nat} {XS : Nat → Int} {a b c : Int} {V B W : List ND} {R : Int → GS → Prop}
theorem l_cell {k : Int} (hX : XL ≤ 260) (hk : 0 ≤ k ∧ k ≤ 40) : Ev (fun m => f_L_cell XL XS m d 0 S [k]) (fun _ S1 => S = S1) := by
  refine ev_up (fun n => e_L_cell_0) ?_
  unfold b_L_cell_0
  refine ev_gg (by first | omega | (constructor <;> omega)) ?_
  refine ev_gg (by first | omega | (constructor <;> omega)) ?_
  refine ev_ite (fun _ => ?_) (fun z => ?_)
  · refine ev_gv ?_
    refine ev_gv ?_
    exact ev_ret rfl
  · refine ev_gg (by first | omega | (constructor <;> omega)) ?_
    refine ev_gv ?_
    exact ev_ret rfl
theorem l_low {k n : Int} (hn : 1 ≤ n ∧ n ≤ 65536) : Ev (fun m => f_L_low XL XS m d 0 S [k, n]) (fun x S1 => (0 ≤ x ∧ x < n) ∧ S = S1) := by
  refine ev_up (fun n => e_L_low_0) ?_
  unfold b_L_low_0
  refine ev_gv ?_
  refine ev_gg (by refine ⟨⟨?_, ?_⟩, ?_, ?_⟩ <;> omega) ?_
  refine ev_gv ?_
  refine ev_ret ⟨⟨?_, ?_⟩, rfl⟩
  · exact Int.emod_nonneg _ (by omega)
  · exact Int.emod_lt_of_pos _ (by omega)
theorem k_grow {z : Int} (h : St Ds S) (hd : 90 ≤ d) (ha : 0 ≤ a ∧ a < 65536) (hz : 1 ≤ z ∧ z ≤ 3) (h4 : Ds.length < 40) : Ev (fun m => f_X11_grow m d 0 S [a, z]) (fun x S1 => x = (Ds.length : Int) ∧ St (Ds ++ [grw a z]) S1) := by
  obtain ⟨_, _, _, _, _, h⟩ := h
  refine ev_mono (c_grow h hd (a := a) (z := z) ⟨by omega, by omega⟩ ⟨by omega, by omega⟩) (fun x S1 q => ?_)
  rw [if_pos ⟨ha, hz⟩, if_pos h4] at q
  exact ⟨q.1, st_of q.2⟩
theorem l_tryVary {z : Int} (h : St Ds S) (hd : 91 ≤ d) (ia : Is Ds a V) (hz : 0 ≤ z ∧ z < 65536) (h4 : Ds.length < 40) (hp : pOK (vrW V z)) : Ev (fun m => f_L_tryVary XL XS m d 0 S [a, z]) (fun x S1 => x = (Ds.length : Int) ∧ St (Ds ++ [vrW V z]) S1) := by
  have ex := ex_e
  have ra := is_inr h ia
  obtain ⟨_, _, _, _, _, h⟩ := h
  show Ev (fun n => gg (1 ≤ d) <| gc (f_X11_vary n (d - 1) 0 S [a, z]) fun x1 S1 => if x1 < exB then some (x1, S1) else if x1 = exB + 2 then some (-1, S1) else none) _
  refine ev_gg (by first | omega | (constructor <;> omega)) ?_
  refine ev_gc (c_vary (d := d - 1) h (by omega) ra.1 (z := z) ⟨by omega, by omega⟩) (fun x S1 q => ?_)
  rw [if_pos ia.1, if_pos hz, ia.2, if_pos ⟨hp, h4⟩] at q
  obtain ⟨q1, q2⟩ := q
  refine ev_ite (fun _ => ?_) (fun z => by omega)
  exact ev_ret ⟨q1, st_of q2⟩
/-- at the end -/
theorem l_law367 (hd : 300 ≤ d) (h : St Ds S) (h4 : Ds.length < 40) (ia : Is Ds 0 V) : Ev (fun m => f_L_law XL XS m d 367 S [1]) (fun x _ => x = 1) := by
  have ex := ex_e
  have dS : Is (Ds ++ [stT]) (Ds.length : Int) stT := is_new rfl
  refine ev_up (fun n => e_L_law_367) ?_
  unfold b_L_law_367
  refine ev_gg (by first | omega | (constructor <;> omega)) ?_
  refine ev_gc (k_standard (d := d - 1) h (by omega) h4) (fun x S1 q => ?_)
  obtain ⟨q1, q2⟩ := q
  subst q1
  refine ev_ite (fun _ => ?_) (fun z => by omega)
  refine ev_gg (by decide) ?_
  refine ev_ite (fun z => absurd z (by decide)) (fun _ => ?_)
  refine ev_gc (k_check (d := d - 1) q2 (by omega) dS dS) (fun y S2 p => ?_)
  obtain ⟨⟨K1, p1, p2, p3⟩, p4⟩ := p
  have p5 : y = 0 := by
    obtain ⟨n, en⟩ := st_own
    rw [en] at p1
    rw [p3, ← Option.some.inj p1]
    rfl
  subst p5
  refine ev_ite (fun _ => ?_) (fun z => by omega)
  refine ev_gg (by decide) ?_
  refine ev_ite (fun z => absurd rfl z) (fun _ => ?_)
  refine ev_gc (k_check (d := d - 1) p4 (by omega) dS (is_app ia)) (fun w S3 r => ?_)
  obtain ⟨⟨K2, r1, r2, r3⟩, r4⟩ := r
  refine ev_ite (fun _ => ?_) (fun z => by omega)
  refine ev_gg (by first | omega | (constructor <;> omega)) ?_
  refine ev_ite (fun z => by omega) (fun _ => ?_)
  refine ev_gc (k_sound (d := d - 1) r4 (by omega) dS) (fun v S4 t => ?_)
  obtain ⟨t1, t2⟩ := t
  subst t1
  refine ev_ite (fun _ => ?_) (fun z => by omega)
  refine ev_gg (by decide) ?_
  refine ev_ite (fun z => absurd z (by decide)) (fun _ => ?_)
  exact ev_ret rfl
/-- what an act needs of its three DOCUMENTS -/
abbrev A3 (Ds : List (List ND)) (a : Int) (V B W : List ND) : Prop := Is Ds a V ∧ Is Ds (a + 1) B ∧ Is Ds (a + 1 + 1) W ∧ LKy V ∧ LKy W ∧ V.length ≤ 40 ∧ B.length ≤ 43 ∧ W.length ≤ 43
theorem l_law325 {a3 a4 : Int} (hd : 300 ≤ d) (h : St Ds S) (h3 : A3 Ds a V B W) (h4 : Ds.length ≤ 30) (hr : ∀ S1, St Ds S1 → Ev (fun m => f_L_law XL XS m d 15 S1 [1, a3 + 6, a4 + 1]) R) : Ev (fun m => f_L_law XL XS m d 325 S [a3, a4, a, a + 1, a + 1 + 1]) R := by
  have ex := ex_e
  refine ev_up (fun n => e_L_law_325) ?_
  unfold b_L_law_325
  refine ev_gg (by first | omega | (constructor <;> omega)) ?_
  refine ev_gc (k_sound (d := d - 1) h (by omega) h3.1) (fun x S1 q => ?_)
  obtain ⟨q1, q2⟩ := q
  subst q1
  refine ev_ite (fun _ => ?_) (fun z => by omega)
  refine ev_gg (by decide) ?_
  refine ev_ite (fun z => absurd z (by decide)) (fun _ => ?_)
  refine ev_gc (k_sound (d := d - 1) q2 (by omega) h3.2.1) (fun y S2 p => ?_)
  obtain ⟨p1, p2⟩ := p
  subst p1
  refine ev_ite (fun _ => ?_) (fun z => by omega)
  refine ev_gg (by decide) ?_
  refine ev_ite (fun z => absurd z (by decide)) (fun _ => ?_)
  refine ev_gc (k_sound (d := d - 1) p2 (by omega) h3.2.2.1) (fun w S3 r => ?_)
  obtain ⟨r1, r2⟩ := r
  subst r1
  refine ev_ite (fun _ => ?_) (fun z => by omega)
  refine ev_gg (by decide) ?_
  refine ev_ite (fun z => absurd z (by decide)) (fun _ => ?_)
  refine ev_gv ?_
  refine ev_gv ?_
  exact hr S3 r2
theorem l_law281 {a3 a4 : Int} (hd : 300 ≤ d) (h : St Ds S) (h3 : A3 Ds a V B W) (h4 : Ds.length ≤ 30) (hr : ∀ S1, St Ds S1 → Ev (fun m => f_L_law XL XS m d 15 S1 [1, a3 + 6, a4 + 1]) R) : Ev (fun m => f_L_law XL XS m d 281 S [a3, a4, a, a + 1, a + 1 + 1, 1]) R := by
  have ex := ex_e
  have dV := is_doc h h3.1
  have dB := is_doc h h3.2.1
  have lV1 := dV.1.1.1.2.1
  have lB1 := dB.1.1.1.2.1
  have gV := dg_r dV.1
  have gB := dg_r dB.1
  refine ev_up (fun n => e_L_law_281) ?_
  unfold b_L_law_281
  refine ev_gg (by decide) ?_
  refine ev_ite (fun z => absurd z (by decide)) (fun _ => ?_)
  refine ev_gg (by first | omega | (constructor <;> omega)) ?_
  refine ev_gcr (k_equal1 (d := d - 1) h (by omega) h3.1 h3.1 rfl) ?_
  refine ev_ite (fun _ => ?_) (fun z => by omega)
  refine ev_gg (by decide) ?_
  refine ev_ite (fun z => absurd z (by decide)) (fun _ => ?_)
  refine ev_gc (k_digest (d := d - 1) (i := 0) h (by omega) h3.1 ⟨by omega, by omega⟩) (fun x3 S3 r3 => ?_)
  obtain ⟨r3, s3⟩ := r3
  have r3 : x3 = dgst 7 (wrF 12 1 0 (sg V 0)) := r3
  rw [sg_self dV.1.1.1] at r3
  refine ev_ite (fun _ => ?_) (fun z => by omega)
  refine ev_gc (k_digest (d := d - 1) (i := 0) s3 (by omega) h3.2.1 ⟨by omega, by omega⟩) (fun x4 S4 r4 => ?_)
  obtain ⟨r4, s4⟩ := r4
  have r4 : x4 = dgst 7 (wrF 12 1 0 (sg B 0)) := r4
  rw [sg_self dB.1.1.1] at r4
  refine ev_ite (fun _ => ?_) (fun z => by omega)
  refine ev_gg (by first | omega | (constructor <;> omega)) ?_
  refine ev_gg (by first | omega | (constructor <;> omega)) ?_
  refine ev_ite (fun _ => l_law325 hd s4 h3 h4 hr) (fun z => ?_)
  obtain ⟨e, he, k⟩ := k_equal (d := d - 1) s4 (by omega) h3.1 h3.2.1
  refine ev_gcr k ?_
  have e0 : e = 0 := by
    rcases he with ⟨_, y⟩ | ⟨y, _⟩
    · exact absurd (by rw [r3, r4, wr_ek dV dB y]) z
    · exact y
  subst e0
  refine ev_ite (fun _ => ?_) (fun z => by omega)
  refine ev_gg (by decide) ?_
  refine ev_ite (fun z => absurd rfl z) (fun _ => ?_)
  exact l_law325 hd s4 h3 h4 hr
theorem l_law217 {a3 a4 : Int} (hX : XL ≤ 260) (h30 : 0 ≤ a3 ∧ a3 ≤ 30) (hd : 300 ≤ d) (h : St Ds S) (h3 : A3 Ds a V B W) (h4 : Ds.length ≤ 30) (hr : ∀ S1, St Ds S1 → Ev (fun m => f_L_law XL XS m d 15 S1 [1, a3 + 6, a4 + 1]) R) : Ev (fun m => f_L_law XL XS m d 217 S [a3, a4, a, a + 1, a + 1 + 1, 1]) R := by
  have ex := ex_e
  have dV := is_doc h h3.1
  have dW := is_doc h h3.2.2.1
  have lV1 := dV.1.1.1.2.1
  have lW1 := dW.1.1.1.2.1
  have lV := h3.2.2.2.2.2.1
  have lW := h3.2.2.2.2.2.2.2
  refine ev_up (fun n => e_L_law_217) ?_
  unfold b_L_law_217
  refine ev_gg (by decide) ?_
  refine ev_ite (fun z => absurd z (by decide)) (fun _ => ?_)
  refine ev_gv ?_
  refine ev_gg (by first | omega | (constructor <;> omega)) ?_
  refine ev_gc (l_cell (d := d - 1) (XS := XS) hX (k := a3 + 4) ⟨by omega, by omega⟩) (fun x S1 q => ?_)
  subst q
  refine ev_gcr (rd_as (k_node (d := d - 1) (i := 0) (w := 2) h (by omega) h3.1 ⟨by omega, by omega⟩ (by decide)) (show abI V 0 2 = (V.length : Int) by rw [ab_2, nz_0 dV])) ?_
  refine ev_ite (fun _ => ?_) (fun z => by omega)
  refine ev_gc (l_low (d := d - 1) (k := x) (n := (V.length : Int)) (XL := XL) (XS := XS) ⟨by omega, by omega⟩) (fun i S1 q => ?_)
  obtain ⟨q1, q2⟩ := q
  subst q2
  obtain ⟨j, rfl⟩ : ∃ j : Nat, i = (j : Int) := ⟨i.toNat, by omega⟩
  refine ev_gc (l_finds (d := d - 1) (by omega) h (by omega) h3.1 h3.2.2.2.1 (i := j) (by omega)) (fun y S2 p => ?_)
  obtain ⟨p1, p2⟩ := p
  subst p1
  refine ev_gg (by decide) ?_
  refine ev_ite (fun z => absurd z (by decide)) (fun _ => ?_)
  refine ev_gv ?_
  refine ev_gc (l_cell (d := d - 1) (XS := XS) hX (k := a3 + 5) ⟨by omega, by omega⟩) (fun x S1 q => ?_)
  subst q
  refine ev_gcr (rd_as (k_node (d := d - 1) (i := 0) (w := 2) p2 (by omega) h3.2.2.1 ⟨by omega, by omega⟩ (by decide)) (show abI W 0 2 = (W.length : Int) by rw [ab_2, nz_0 dW])) ?_
  refine ev_ite (fun _ => ?_) (fun z => by omega)
  refine ev_gc (l_low (d := d - 1) (k := x) (n := (W.length : Int)) (XL := XL) (XS := XS) ⟨by omega, by omega⟩) (fun i S3 q => ?_)
  obtain ⟨q1, q2⟩ := q
  subst q2
  obtain ⟨j2, rfl⟩ : ∃ j : Nat, i = (j : Int) := ⟨i.toNat, by omega⟩
  refine ev_gc (l_finds (d := d - 1) (by omega) p2 (by omega) h3.2.2.1 h3.2.2.2.2.1 (i := j2) (by omega)) (fun y S4 r => ?_)
  obtain ⟨r1, r2⟩ := r
  subst r1
  refine ev_gg (by decide) ?_
  refine ev_ite (fun z => absurd z (by decide)) (fun _ => ?_)
  exact l_law281 hd r2 h3 h4 hr
theorem l_law143 {a3 a4 : Int} (hX : XL ≤ 260) (h30 : 0 ≤ a3 ∧ a3 ≤ 30) (hd : 300 ≤ d) (h : St Ds S) (h3 : A3 Ds a V B W) (h4 : Ds.length ≤ 30) (hr : ∀ S1, St Ds S1 → Ev (fun m => f_L_law XL XS m d 15 S1 [1, a3 + 6, a4 + 1]) R) : Ev (fun m => f_L_law XL XS m d 143 S [a3, a4, a, a + 1, a + 1 + 1, 1]) R := by
  have lV := h3.2.2.2.2.2.1
  have lB := h3.2.2.2.2.2.2.1
  have lW := h3.2.2.2.2.2.2.2
  refine ev_up (fun n => e_L_law_143) ?_
  unfold b_L_law_143
  refine ev_gg (by decide) ?_
  refine ev_ite (fun z => absurd z (by decide)) (fun _ => ?_)
  refine ev_gg (by first | omega | (constructor <;> omega)) ?_
  refine ev_gc (l_rereads (d := d - 1) (by omega) h (by omega) h3.1) (fun x S1 q => ?_)
  obtain ⟨q1, s1⟩ := q
  subst q1
  refine ev_gg (by decide) ?_
  refine ev_ite (fun z => absurd z (by decide)) (fun _ => ?_)
  refine ev_gc (l_rereads (d := d - 1) (by omega) s1 (by omega) h3.2.1) (fun x S2 q => ?_)
  obtain ⟨q1, s2⟩ := q
  subst q1
  refine ev_gg (by decide) ?_
  refine ev_ite (fun z => absurd z (by decide)) (fun _ => ?_)
  refine ev_gc (l_patches (d := d - 1) (by omega) s2 h4 h3.1 h3.2.1 (by omega)) (fun x S3 q => ?_)
  obtain ⟨q1, s3⟩ := q
  subst q1
  refine ev_gg (by decide) ?_
  refine ev_ite (fun z => absurd z (by decide)) (fun _ => ?_)
  refine ev_gc (l_patches (d := d - 1) (by omega) s3 h4 h3.2.1 h3.2.2.1 (by omega)) (fun x S4 q => ?_)
  obtain ⟨q1, s4⟩ := q
  subst q1
  refine ev_gg (by decide) ?_
  refine ev_ite (fun z => absurd z (by decide)) (fun _ => ?_)
  refine ev_gc (l_patches (d := d - 1) (by omega) s4 h4 h3.2.2.1 h3.2.2.1 (by omega)) (fun x S5 q => ?_)
  obtain ⟨q1, s5⟩ := q
  subst q1
  refine ev_gg (by decide) ?_
  refine ev_ite (fun z => absurd z (by decide)) (fun _ => ?_)
  refine ev_gc (l_joins (d := d - 1) (by omega) s5 h4 h3.1 h3.2.1 h3.2.2.1 (by omega)) (fun x S6 q => ?_)
  obtain ⟨q1, s6⟩ := q
  subst q1
  refine ev_gg (by decide) ?_
  refine ev_ite (fun z => absurd z (by decide)) (fun _ => ?_)
  exact l_law217 hX h30 hd s6 h3 h4 hr
/-- the acts -/
theorem l_law15 (hX : XL ≤ 260) (hd : 300 ≤ d) : ∀ (u t : Nat) (Ds : List (List ND)) (S : GS), t + u = 5 → Ds.length = 3 * t → St Ds S → Ev (fun m => f_L_law XL XS m d 15 S [1, 6 * (t : Int), (t : Int)]) (fun x _ => x = 1)
  | 0, t, Ds, S, ht, hl, h => by
    have e : t = 5 := by omega
    subst e
    refine ev_up (fun n => e_L_law_15) ?_
    unfold b_L_law_15
    refine ev_gg (by decide) ?_
    refine ev_ite (fun _ => ?_) (fun z => absurd (by decide) z)
    exact l_law367 hd h (by omega) (V := atD' Ds 0) ⟨⟨by decide, by omega⟩, rfl⟩
  | u + 1, t, Ds, S, ht, hl, h => by
    have ex := ex_e
    refine ev_up (fun n => e_L_law_15) ?_
    unfold b_L_law_15
    refine ev_gg (by first | omega | (constructor <;> omega)) ?_
    refine ev_ite (fun z => by omega) (fun _ => ?_)
    refine ev_gg (by decide) ?_
    refine ev_ite (fun z => absurd z (by decide)) (fun _ => ?_)
    refine ev_gg (by first | omega | (constructor <;> omega)) ?_
    refine ev_gcr (k_sum0 (d := d - 1) h (by omega)) ?_
    refine ev_ite (fun _ => ?_) (fun z => by omega)
    refine ev_gc (l_cell (d := d - 1) (XS := XS) hX (k := 6 * (t : Int)) ⟨by omega, by omega⟩) (fun x1 S1 q => ?_)
    subst q
    refine ev_gc (l_low (d := d - 1) (k := x1) (n := 65536) (XL := XL) (XS := XS) (by decide)) (fun s S1 q => ?_)
    obtain ⟨hs, q2⟩ := q
    subst q2
    refine ev_gv ?_
    refine ev_gc (l_cell (d := d - 1) (XS := XS) hX (k := 6 * (t : Int) + 1) ⟨by omega, by omega⟩) (fun x1 S1 q => ?_)
    subst q
    refine ev_gc (l_low (d := d - 1) (k := x1) (n := 3) (XL := XL) (XS := XS) (by decide)) (fun z S1 q => ?_)
    obtain ⟨hz, q2⟩ := q
    subst q2
    refine ev_gv ?_
    refine ev_gc (k_grow (d := d - 1) (a := s) (z := 1 + z) h (by omega) hs ⟨by omega, by omega⟩ (by omega)) (fun x S2 q => ?_)
    obtain ⟨q1, s2⟩ := q
    subst q1
    obtain ⟨g1, g2, g3, g4⟩ := grw_ok (seed := s) (sz := 1 + z) hs ⟨by omega, by omega⟩
    generalize grw s (1 + z) = V at *
    have l1 : (Ds ++ [V]).length = Ds.length + 1 := by rw [List.length_append, List.length_singleton]
    refine ev_ite (fun _ => ?_) (fun z => by omega)
    refine ev_gv ?_
    refine ev_gc (l_cell (d := d - 1) (XS := XS) hX (k := 6 * (t : Int) + 2) ⟨by omega, by omega⟩) (fun x1 S1 q => ?_)
    subst q
    refine ev_gc (l_low (d := d - 1) (k := x1) (n := 65536) (XL := XL) (XS := XS) (by decide)) (fun sb S1 q => ?_)
    obtain ⟨hb, q2⟩ := q
    subst q2
    have vB := vry_ok (seed := sb) g1 g2 g3 g4
    refine ev_gc (l_tryVary (d := d - 1) s2 (by omega) (is_new rfl) hb (by omega) vB.1) (fun x S3 q => ?_)
    obtain ⟨q1, s3⟩ := q
    obtain ⟨_, b1, b2, b3⟩ := vB
    generalize vrW V sb = B at *
    have q1 : x = (Ds.length : Int) + 1 := by
      rw [q1, l1]
      omega
    subst q1
    have l2 : (Ds ++ [V] ++ [B]).length = Ds.length + 2 := by rw [List.length_append, List.length_singleton, l1]
    refine ev_gv ?_
    refine ev_gc (l_cell (d := d - 1) (XS := XS) hX (k := 6 * (t : Int) + 3) ⟨by omega, by omega⟩) (fun x1 S1 q => ?_)
    subst q
    refine ev_gc (l_low (d := d - 1) (k := x1) (n := 65536) (XL := XL) (XS := XS) (by decide)) (fun sc S1 q => ?_)
    obtain ⟨hc, q2⟩ := q
    subst q2
    have vC := vry_ok (seed := sc) g1 g2 g3 g4
    refine ev_gc (l_tryVary (d := d - 1) s3 (by omega) (is_app (is_new rfl)) hc (by omega) vC.1) (fun x S4 q => ?_)
    obtain ⟨q1, s4⟩ := q
    obtain ⟨_, c1, c2, c3⟩ := vC
    generalize vrW V sc = W at *
    have q1 : x = (Ds.length : Int) + 1 + 1 := by
      rw [q1, l2]
      omega
    subst q1
    have l3 : (Ds ++ [V] ++ [B] ++ [W]).length = Ds.length + 3 := by rw [List.length_append, List.length_singleton, l2]
    refine ev_gg (by first | omega | (constructor <;> omega)) ?_
    refine ev_gg (by first | omega | (constructor <;> omega)) ?_
    refine ev_ite (fun z => absurd rfl z) (fun _ => ?_)
    refine ev_gv ?_
    refine ev_gg (by first | omega | (constructor <;> omega)) ?_
    refine ev_gg (by first | omega | (constructor <;> omega)) ?_
    refine ev_ite (fun z => absurd rfl z) (fun _ => ?_)
    refine ev_gv ?_
    refine ev_gg (by first | omega | (constructor <;> omega)) ?_
    refine ev_gg (by first | omega | (constructor <;> omega)) ?_
    refine ev_ite (fun z => absurd rfl z) (fun _ => ?_)
    refine ev_gcr (rd_as (k_sum0 (d := d - 1) s4 (by omega)) (show ((Ds ++ [V] ++ [B] ++ [W]).length : Int) = (Ds.length : Int) + 3 by rw [l3]; omega)) ?_
    refine ev_ite (fun _ => ?_) (fun z => by omega)
    refine ev_gv ?_
    refine ev_gg (by first | omega | (constructor <;> omega)) ?_
    refine ev_gg (by first | omega | (constructor <;> omega)) ?_
    refine ev_ite (fun z => absurd rfl z) (fun _ => ?_)
    have h3 : A3 (Ds ++ [V] ++ [B] ++ [W]) (Ds.length : Int) V B W := ⟨is_app (is_app (is_new rfl)), is_app (is_new (by rw [l1]; omega)), is_new (by rw [l2]; omega), g2, c2, g3, b3, c3⟩
    refine l_law143 hX ⟨by omega, by omega⟩ hd s4 h3 (by omega) (fun S5 s5 => ?_)
    have k := l_law15 hX hd u (t + 1) _ S5 (by omega) (by rw [l3]; omega) s5
    rw [show 6 * ((t + 1 : Nat) : Int) = 6 * (t : Int) + 6 by omega, show ((t + 1 : Nat) : Int) = (t : Int) + 1 by omega] at k
    exact k
end XLW
theorem pure_all : PureAll := fun XL XS hX _ => by
  obtain ⟨x1, S1, h1, N1, e1⟩ := c_init
  have k := l_law15 (XL := XL) (XS := XS) hX (d := 2036) (by decide) 5 0 [] S1 rfl rfl (st_of h1)
  rw [show ((0 : Nat) : Int) = 0 from rfl, Int.mul_zero] at k
  obtain ⟨x3, S3, h3, N3, e3⟩ := k
  have h3 : x3 = 1 := h3
  subst h3
  exact ⟨N1, N3, x1, S1, S3, e1 N1 (Nat.le_refl _), e3 N3 (Nat.le_refl _)⟩
