/-! THE REFERENCE joins: one VALUE of a MAP -/
section RJ4
variable {S : GS} {d cO cA cB : Nat} {O A B : List ND}
/-- VALUES of a MAP that is joined -/
theorem jv_ok (hO : DOC O) (hA : DOC A) (hB : DOC B) {f : Nat} {p : List Int} {o : Int} {a b : Nat} (hm : mpO O o) (ha : a < A.length) (hb : b < B.length) : (∀ t ∈ jvF O A B f p o (a : Int) (b : Int), TR t ∧ PZL t) ∧ (jvF O A B f p o (a : Int) (b : Int)).length ≤ 300 := by
  have zO := pz_l hO.1.1.2
  have zA := pz_l hA.1.1.2
  have zB := pz_l hB.1.1.2
  have ia : kidI A (a : Int) = kids A a := by unfold kidI; rw [if_neg (by omega), Int.toNat_natCast]
  have ib : kidI B (b : Int) = kids B b := by unfold kidI; rw [if_neg (by omega), Int.toNat_natCast]
  have ih := jn_ok hO hA hB f
  obtain ⟨x1, x2⟩ := jk_1 (a := (a : Int)) (b := (b : Int)) (p := p) ih hA.1.1.1.1 zA hB.1.1.1.1 zB (kidI O o) (kidI_in hO.1.1.1.1 zO hm)
  obtain ⟨y1, y2⟩ := jk_2 (o := o) (b := (b : Int)) (p := p) ih hB.1.1.1.1 zB (kidI A (a : Int)) (by rw [ia]; exact fun c hc => (kid_in3 hA.1.1.1.1 zA ha hc).2.1)
  obtain ⟨z1, z2⟩ := jk_3 (O := O) (A := A) (o := o) (a := (a : Int)) hB.1 (kidI B (b : Int)) (by rw [ib]; exact fun c hc => (kid_in3 hB.1.1.1.1 zB hb hc).2.1)
  have l1 := x2.length_le
  have l2 := y2.length_le
  have l3 := z2.length_le
  rw [List.length_map, List.length_map] at l1 l2 l3
  have k1 : (kidI O o).length ≤ 100 := by
    rcases hm with z | z
    · unfold kidI
      rw [if_pos z]
      exact Nat.zero_le _
    · unfold kidI
      rw [if_neg (by omega)]
      have := kids_le hO.1.1.1.1 zO (g := o.toNat)
      have := hO.1.1.1.1.1 o.toNat (by omega)
      have := hO.2.2.1
      omega
  have k2 : (kids A a).length ≤ 100 := by
    have := kids_le hA.1.1.1.1 zA (g := a)
    have := hA.1.1.1.1.1 a ha
    have := hA.2.2.1
    omega
  have k3 : (kids B b).length ≤ 100 := by
    have := kids_le hB.1.1.1.1 zB (g := b)
    have := hB.1.1.1.1.1 b hb
    have := hB.2.2.1
    omega
  rw [ia] at l2
  rw [ib] at l3
  constructor
  · intro t ht
    rcases List.mem_append.mp ht with z | z
    · rcases List.mem_append.mp z with z | z
      · exact (x1 t z).1
      · exact (y1 t z).1.1
    · exact (z1 t z).1.1
  · show ((j1F (jnF O A B f) O A B (a : Int) (b : Int) p (kidI O o)).1 ++ (j2F (jnF O A B f) O A B o (b : Int) p (kidI A (a : Int))).1 ++ j3F O A B o (a : Int) (kidI B (b : Int))).length ≤ 300
    rw [List.length_append, List.length_append]
    rw [ia] at *
    rw [ib] at *
    omega
theorem dp_pos {V : List ND} {a : Int} (h : a ≠ -1) (hd : dpO V a 0) : False := by
  have := hd h 0
  have e : 0 ≤ dpS 0 (sg V a.toNat) := by
    show 0 ≤ (if 4 ≤ rk (sg V a.toNat) then (1 : Int) else 0)
    split <;> decide
  omega
theorem jn_step {f top a b ix cV e : Nat} {V : List ND} {o o' a' b' : Int} {p : List Int} {r0 : Option (List ND)} {x : ND} {E : List (List ND)} {Q : List (List Int)} {Qf : Int → GS → Prop} (hd : 13 ≤ d) (IH : ∀ f', f = f' + 1 → JAll cO cA cB O A B d f') (hc : cO < 40 ∧ cA < 40 ∧ cB < 40) (hO : DOC O) (hA : DOC A) (hB : DOC B) (ht : top + f ≤ 12) (hpl : p.length + 25 * (f + 1) ≤ 325) (hp : rng p) (hcV : cV < 40) (hLV : LK S cV V) (he : e < V.length) (hst : stp V e = 47 :: (nq V e).flatMap esc) (ho : nOK O o') (ha : nOK A a') (hb : nOK B b') (hka : a' ≠ -1 → nq A a'.toNat = nq V e) (hkb : b' ≠ -1 → nq B b'.toNat = nq V e) (dA : dpO A a' f) (dB : dpO B b' f) (hQ : Q.length + (jnF O A B f (p ++ stp V e) o' a' b').2.length ≤ 200) (hE : JE cO cA cB O A B S) (hF : JF S top o a b ix p) (hix : ix ≤ 100) (hr0 : ∀ V0, r0 = some V0 → V0.length < 100 → V0.length = ix) (hEl : E.length ≤ 900) (hmd : MD S 40 (apM r0 (wZ x E.length :: (E.map mny).flatten))) (hq : QmS Q S) (nx : ∀ S1, MD S1 40 (apM r0 (wZ x (E ++ (jnF O A B f (p ++ stp V e) o' a' b').1).length :: ((E ++ (jnF O A B f (p ++ stp V e) o' a' b').1).map mny).flatten)) → QmS (Q ++ (jnF O A B f (p ++ stp V e) o' a' b').2) S1 → FC (jlP (top + 1) p.length) S S1 → Ev (fun n => f_X12_joins n d 47 S1 [((top + 1 : Nat) : Int)]) Qf) : Ev (fun n => f_X12_joins n d 260 S [((top + 1 : Nat) : Int), (top : Int), (e : Int), (cV : Int), o', a', b']) Qf := by
  have nr := hLV.2.2.2 _ (nd_mem he)
  have w12 : (nq V e).length ≤ 12 := nr.2.2.2.2.2.2.2.2.1
  have es := escs_len (nq V e)
  have sl : (stp V e).length ≤ 25 := by
    rw [hst, List.length_cons]
    omega
  have vl := hLV.2.1
  have lO := hE.2.1.2.1
  have lA := hE.2.2.1.2.1
  have lB := hE.2.2.2.2.1
  refine ev_up (fun n => e_X12_joins_260) ?_
  unfold b_X12_joins_260
  refine ev_gg (by first | omega | (constructor <;> omega)) ?_
  refine ev_gc (q_wordOfKey (d := d - 1) (K := cV) (I := e) (V := V) (by omega) rfl (by omega) rfl hLV he) (fun _ S3 q3 => ?_)
  obtain ⟨w3, f3⟩ := q3
  refine ev_gg (by first | omega | (constructor <;> omega)) ?_
  refine ev_gv ?_
  rw [Int.toNat_natCast, fc_i f3 (by omega), hF.2.2.1]
  refine ev_gv ?_
  have f4 : FC (fun c j => c = 500 ∧ j = 29) S3 (gI S3 500 29 (p.length : Int)) := fc_gI ⟨rfl, rfl⟩
  have e29 : (gI S3 500 29 (p.length : Int)).1 500 29 = (p.length : Int) := gI_a
  generalize gI S3 500 29 (p.length : Int) = S8 at f4 e29 ⊢
  have pa8 : PaS S8 p := ⟨e29, by omega, fun i hi => by rw [fc_i f4 (by omega), fc_i f3 (by omega)]; exact hF.2.2.2 i hi, hp⟩
  have w8 := wd_fr w3 f4 (by omega) (fun j => by omega)
  refine ev_gc (q_addsWord (d := d - 1) (p := p) (w := nq V e) pa8 w8 (by omega)) (fun _ S11 q11 => ?_)
  obtain ⟨pa11, f11⟩ := q11
  rw [← hst] at pa11
  have w11 := wd_fr w8 f11 (by omega) (fun j => by omega)
  have E3 := je_fr hE f3 (by omega) (fun j _ => by omega) (by omega)
  have E8 := je_fr E3 f4 (by omega) (fun j _ => by omega) (by omega)
  have E11 := je_fr E8 f11 (by omega) (fun j _ => by omega) (by omega)
  have m11 := mdr_fr (mdr_fr (mdr_fr hmd f3 (fun j _ _ => by omega) (by omega) (by omega)) f4 (fun j _ _ => by omega) (by omega) (by omega)) f11 (fun j _ _ => by omega) (by omega) (by omega)
  have q11 := qm_fr (qm_fr (qm_fr hq f3 (by omega) (fun j => by omega) (fun j => by omega)) f4 (by omega) (fun j => by omega) (fun j => by omega)) f11 (by omega) (fun j => by omega) (fun j => by omega)
  have i11 : FC (jlP (top + 1) p.length) S S11 := fc_tr (fc_mono f3 (fun c j z => jl_wd z)) (fc_tr (fc_mono f4 (fun c j z => jl_29 z)) (fc_mono f11 (fun c j z => z.elim jl_29 jl_18)))
  have jc := jnF_cs (O := O) (A := A) (B := B) (f := f) (p := p ++ stp V e) (o := o') (a := a') (b := b')
  have f1 : jCs O A B o' a' b' = 3 → 1 ≤ f := fun z => by
    rcases Nat.eq_zero_or_pos f with w | w
    · exfalso
      subst w
      have e1 : a' = -1 := Decidable.byContradiction (fun c => dp_pos c dA)
      have e2 : b' = -1 := Decidable.byContradiction (fun c => dp_pos c dB)
      have h0 : alk A a' B b' := (alk_n (Or.inl e1)).mpr (e1.trans e2.symm)
      unfold jCs at z
      rw [if_pos (Or.inl h0)] at z
      cases z
    · exact w
  have pl : (p ++ stp V e).length ≤ p.length + 25 := by rw [List.length_append]; omega
  refine ev_gc (q_joinsOne (d := d - 1) (M := 1) (p := p ++ stp V e) (w := nq V e) (Q := Q) (by omega) hc E11.1 E11.2.1 E11.2.2.1 E11.2.2.2 hO hA hB ho ha hb pa11 (fun z => by have := f1 z; omega) q11 (fun z => by rw [jc.2.2 z] at hQ; have : ([p ++ stp V e] : List (List Int)).length = 1 := rfl; dsimp only at hQ; omega) (Nat.le_refl 1) (fun _ => ⟨w11, w12⟩) (fun z => by cases z) hka hkb m11) (fun y S14 q14 => ?_)
  obtain ⟨j1, pa14, jd14, f14⟩ := q14
  have i14 : FC (jlP (top + 1) p.length) S S14 := fc_tr i11 (fc_mono f14 (fun c j z => jl_jo z))
  have E14 : JE cO cA cB O A B S14 := ⟨jd14, lk_fr E11.2.1 f14 (fun j _ _ => by omega) (by omega), lk_fr E11.2.2.1 f14 (fun j _ _ => by omega) (by omega), lk_fr E11.2.2.2 f14 (fun j _ _ => by omega) (by omega)⟩
  refine ev_gv ?_
  rw [fc_i i14 (by omega), hF.2.1]
  refine ev_gcr (q_at) ?_
  refine ev_gv ?_
  refine ev_gg (by first | omega | (constructor <;> omega)) ?_
  refine ev_gv ?_
  rw [show (((101 * 40 + (ix : Int)) * 61 + 3 : Int)).toNat = 6161 * 40 + 61 * ix + 3 by omega]
  -- a VALUE more, or none
  have fin : ∀ (s : Nat) (R1 : List (List ND)) (Q1 : List (List Int)), y = (s : Int) → s ≤ 1 → jnF O A B f (p ++ stp V e) o' a' b' = (R1, Q1) → R1.length = s → MD S14 40 (apM (apM r0 (wZ x E.length :: (E.map mny).flatten)) (R1.map mny).flatten) → QmS (Q ++ Q1) S14 → Ev (fun n => f_X12_joins n d 324 S14 [((top + 1 : Nat) : Int), o', a', b', y, (s : Int), S14.1 501 (6161 * 40 + 61 * ix + 3), (101 * 40 + (ix : Int)) * 61 + 3]) Qf := by
    intro s R1 Q1 ey hs ej hR m14 q14
    rw [apM_app, List.cons_append] at m14
    have m15 := md_inc (n := E.length) (s := s) m14 hr0 hix (by omega)
    have f15 : FC joP S14 (gI S14 501 (6161 * 40 + 61 * ix + 3) (S14.1 501 (6161 * 40 + 61 * ix + 3) + (s : Int))) := fc_gI (jo_do (Or.inl ⟨rfl, by omega, by omega⟩))
    refine ev_up (fun n => e_X12_joins_324) ?_
    unfold b_X12_joins_324
    refine ev_gv ?_
    refine ev_gg (by first | omega | (constructor <;> omega)) ?_
    refine ev_gv ?_
    rw [show (((101 * 40 + (ix : Int)) * 61 + 3 : Int)).toNat = 6161 * 40 + 61 * ix + 3 by omega]
    refine ev_gg (by first | omega | (constructor <;> omega)) ?_
    refine ev_ite (fun _ => ?_) (fun z => by omega)
    refine nx _ ?_ ?_ (fc_tr i14 (fc_mono f15 (fun c j z => jl_jo z)))
    · rw [ej]
      dsimp only
      rw [List.length_append, hR, List.map_append, List.flatten_append]
      exact m15
    · rw [ej]
      exact qm_fr q14 (fc_gI (P := fun c _ => c = 501) rfl) (by omega) (fun j => by omega) (fun j => by omega)
  have go : ∀ (s : Nat) (R1 : List (List ND)) (Q1 : List (List Int)), y = (s : Int) → s ≤ 1 → jnF O A B f (p ++ stp V e) o' a' b' = (R1, Q1) → R1.length = s → MD S14 40 (apM (apM r0 (wZ x E.length :: (E.map mny).flatten)) (R1.map mny).flatten) → QmS (Q ++ Q1) S14 → Ev (fun n => gg (inr y) (if y ≠ 0 then f_X12_joins n d 324 S14 [((top + 1 : Nat) : Int), o', a', b', y, 1, S14.1 501 (6161 * 40 + 61 * ix + 3), (101 * 40 + (ix : Int)) * 61 + 3] else f_X12_joins n d 324 S14 [((top + 1 : Nat) : Int), o', a', b', y, 0, S14.1 501 (6161 * 40 + 61 * ix + 3), (101 * 40 + (ix : Int)) * 61 + 3])) Qf := by
    intro s R1 Q1 ey hs ej hR m14 q14
    have k := fin s R1 Q1 ey hs ej hR m14 q14
    refine ev_gg (by first | omega | (constructor <;> omega)) ?_
    refine ev_ite (fun z => ?_) (fun z => ?_)
    · have e1 : s = 1 := by omega
      subst e1
      exact k
    · have e1 : s = 0 := by omega
      subst e1
      exact k
  have act : ∀ (W : List ND) (v : Int), (acT W v).length = (if v = -1 then 0 else 1) ∧ (if v = -1 then 0 else 1 : Int) = (((acT W v).length : Nat) : Int) ∧ (acT W v).length ≤ 1 := fun W v => by
    unfold acT
    by_cases z : v = -1
    · rw [if_pos z, if_pos z, if_pos z]
      exact ⟨rfl, rfl, Nat.zero_le _⟩
    · rw [if_neg z, if_neg z, if_neg z]
      exact ⟨rfl, rfl, Nat.le_refl _⟩
  rcases jcs_4 O A B o' a' b' with z | z | z | z
  · obtain ⟨ey, m, q⟩ := j1.1 z
    exact go _ (acT A a') [] (ey.trans (act A a').2.1) (act A a').2.2 (jc.1 z) rfl m (by rw [List.append_nil]; exact q)
  · obtain ⟨ey, m, q⟩ := j1.2.1 z
    exact go _ (acT B b') [] (ey.trans (act B b').2.1) (act B b').2.2 (jc.2.1 z) rfl m (by rw [List.append_nil]; exact q)
  · obtain ⟨ey, m, q, n1⟩ := j1.2.2.1 z
    subst ey
    cases f with
    | zero =>
      exfalso
      have k := kd_5 (jnF_2 (f := 0) (p := []) z).1.1 (by decide)
      exact dp_pos (a := a') (by omega) dA
    | succ f' =>
      obtain ⟨⟨c1, c2, c3⟩, ej⟩ := jnF_2 (f := f') (p := p ++ stp V e) z
      have ka := kd_5 c1 (by decide)
      have kb := kd_5 c2 (by decide)
      have hm : mpO O o' := c3.elim Or.inl (fun w => Or.inr (kd_5 w (by decide)))
      obtain ⟨a'', rfl⟩ : ∃ a'' : Nat, a' = (a'' : Int) := ⟨a'.toNat, by omega⟩
      obtain ⟨b'', rfl⟩ : ∃ b'' : Nat, b' = (b'' : Int) := ⟨b'.toNat, by omega⟩
      rw [Int.toNat_natCast] at ka kb
      have al : a'' < A.length := by omega
      have bl : b'' < B.length := by omega
      have jv := jv_ok hO hA hB (f := f') (p := p ++ stp V e) hm al bl
      rw [ej] at hQ nx
      dsimp only at hQ nx
      have io : inr o' := by
        rcases ho with w | w
        · rw [w]; decide
        · constructor <;> omega
      rw [apM_app, List.cons_append] at m
      have m15 := md_inc (n := E.length) (s := 1) m hr0 hix (by omega)
      have f15 : FC joP S14 (gI S14 501 (6161 * 40 + 61 * ix + 3) (S14.1 501 (6161 * 40 + 61 * ix + 3) + ((1 : Nat) : Int))) := fc_gI (jo_do (Or.inl ⟨rfl, by omega, by omega⟩))
      refine ev_gg (by decide) ?_
      refine ev_ite (fun _ => ?_) (fun w => absurd (by decide) w)
      refine ev_up (fun n => e_X12_joins_324) ?_
      unfold b_X12_joins_324
      refine ev_gv ?_
      refine ev_gg (by first | omega | (constructor <;> omega)) ?_
      refine ev_gv ?_
      rw [show (((101 * 40 + (ix : Int)) * 61 + 3 : Int)).toNat = 6161 * 40 + 61 * ix + 3 by omega]
      have n15 : (gI S14 501 (6161 * 40 + 61 * ix + 3) (S14.1 501 (6161 * 40 + 61 * ix + 3) + ((1 : Nat) : Int))).1 502 40 = S14.1 502 40 := gI_c (by decide)
      have e1 : ((1 : Nat) : Int) = 1 := rfl
      rw [e1] at m15 f15 n15
      have q15 : QmS Q (gI S14 501 (6161 * 40 + 61 * ix + 3) (S14.1 501 (6161 * 40 + 61 * ix + 3) + 1)) := qm_fr q (fc_gI (P := fun c _ => c = 501) rfl) (by omega) (fun j => by omega) (fun j => by omega)
      have g15 : FC (fun c j => c = 501 ∧ j = 6161 * 40 + 61 * ix + 3) S14 (gI S14 501 (6161 * 40 + 61 * ix + 3) (S14.1 501 (6161 * 40 + 61 * ix + 3) + 1)) := fc_gI ⟨rfl, rfl⟩
      have pa15 := pa_fr pa14 g15 (by omega) (fun j => by omega)
      have E15 := je_fr E14 g15 (by omega) (fun j _ => by omega) (by omega)
      generalize gI S14 501 (6161 * 40 + 61 * ix + 3) (S14.1 501 (6161 * 40 + 61 * ix + 3) + 1) = S15 at m15 f15 n15 q15 pa15 E15 g15 ⊢
      refine ev_gg (by decide) ?_
      refine ev_ite (fun w => absurd rfl w) (fun _ => ?_)
      refine ev_gg (by first | omega | (constructor <;> omega)) ?_
      obtain ⟨m, hm1, hm2, hm3⟩ := md_n m15
      have m1 : 1 ≤ m := by omega
      refine ev_gc (q_goesInto (d := d - 1) (t := top + 1) (m := m) (a := (a'' : Int)) (b := (b'' : Int)) (by omega) io hm2) (fun _ S10 q10 => ?_)
      obtain ⟨⟨g28, g29, g30⟩, g31, g32, g33, g34, f10⟩ := q10
      refine ev_gv ?_
      rw [show ((top + 1 : Nat) : Int) + 1 = ((top + 1 + 1 : Nat) : Int) by omega]
      have pa10 := pa_fr pa15 f10 (by omega) (fun j => by omega)
      have i10 : FC (jlP (top + 1) p.length) S S10 := fc_tr i14 (fc_tr (fc_mono f15 (fun c j w => jl_jo w)) (fc_mono f10 (fun c j w => jl_fr ⟨w.1, by omega⟩)))
      have em : apM r0 (wZ x (E.length + 1) :: ((E.map mny).flatten ++ [wQ (ndM 5) (nq V e)])) = apM (apM r0 (wZ x (E.length + 1) :: (E.map mny).flatten)) [wZ (wQ (ndM 5) (nq V e)) 0] := by
        rw [apM_app, List.cons_append]
        rfl
      have m10 := mdr_fr m15 f10 (fun j _ _ => by omega) (by omega) (by omega)
      rw [em] at m10 hm3
      refine IH f' rfl (top + 1) o' a'' b'' (m - 1) (p ++ stp V e) (apM r0 (wZ x (E.length + 1) :: (E.map mny).flatten)) (wQ (ndM 5) (nq V e)) Q S10 Qf (by omega) (by omega) pa14.2.2.2 hm ⟨al, ka.2.2⟩ ⟨bl, kb.2.2⟩ dA dB hQ (je_fr E15 f10 (by omega) (fun j _ => by omega) (by omega)) ⟨⟨g28, g29, g30⟩, by rw [g33]; omega, by rw [g34]; exact pa15.1, fun i hi => pa10.2.2.1 i hi⟩ g31 g32 (by omega) (fun V0 hV0 hl => ?_) m10 (qm_fr q15 f10 (by omega) (fun j => by omega) (fun j => by omega)) (fun S1 mf qf ff => ?_)
      · have := hm3 (V0 ++ [wZ (wQ (ndM 5) (nq V e)) 0]) (by
          rw [hV0]
          unfold apM
          dsimp only
          rw [if_pos (by show V0.length + 1 ≤ 100; omega)])
        rw [List.length_append, List.length_singleton] at this
        omega
      · refine nx S1 ?_ qf (fc_tr i10 (fc_mono ff (fun c j w => jl_up (Nat.le_refl _) (by rw [List.length_append]; omega) w)))
        have eM : mny (gpN (5, 1, 0, [], kI A (a'' : Int)) (jvF O A B f' (p ++ stp V e) o' (a'' : Int) (b'' : Int)) (jvF O A B f' (p ++ stp V e) o' (a'' : Int) (b'' : Int)).length) = wZ (wQ (ndM 5) (nq V e)) (jvF O A B f' (p ++ stp V e) o' (a'' : Int) (b'' : Int)).length :: ((jvF O A B f' (p ++ stp V e) o' (a'' : Int) (b'' : Int)).map mny).flatten := by
          rw [mny_gp (show (4 : Int) ≤ 5 by decide) jv.1]
          have ek : kI A (a'' : Int) = nq V e := by
            rw [kI_n (by omega)]
            exact hka (by omega)
          rw [ek]
          rfl
        rw [List.length_append, List.length_singleton, List.map_append, List.flatten_append, List.map_cons, List.map_nil, List.flatten_cons, List.flatten_nil, List.append_nil, eM]
        rw [apM_app, List.cons_append] at mf
        exact mf
  · obtain ⟨ey, m, q⟩ := j1.2.2.2 z
    refine go 0 [] [p ++ stp V e] ey (Nat.zero_le _) (jc.2.2 z) rfl ?_ q
    show MD S14 40 (apM (apM r0 (wZ x E.length :: (E.map mny).flatten)) [])
    rw [md_apn m]
    exact m
end RJ4
