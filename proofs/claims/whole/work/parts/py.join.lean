/-! THE REFERENCE's join -/
section RJ7
variable {S : GS} {d cO cA cB : Nat} {O A B : List ND}
theorem dpO_doc {V : List ND} (h : DOC V) : dpO V 0 13 := fun _ g => by
  have e : sg V (0 : Int).toNat = V := sg_self h.1.1.1
  rw [e]
  have := h.2.1 g
  omega
/-- what joining makes is one VALUE -/
theorem jnD_one (hO : DOC O) (hA : DOC A) (hB : DOC B) (h : (jnD O A B).2 = []) : ∃ T, (jnD O A B).1 = [T] ∧ (TR T ∧ PZL T) ∧ (T.length ≤ 100 → SDC T) ∧ rq T = [] := by
  have l1 := hO.1.1.1.2.1
  have l2 := hA.1.1.1.2.1
  have l3 := hB.1.1.1.2.1
  have jg := jn_ok hO hA hB 13 [] [] 0 0 0 (Or.inr ⟨by omega, by omega⟩) (Or.inr ⟨by omega, by omega⟩) (Or.inr ⟨by omega, by omega⟩) (fun _ => hA.2.2.2) (fun _ => hB.2.2.2)
  have jc := jnF_cs (O := O) (A := A) (B := B) (f := 13) (p := []) (o := 0) (a := 0) (b := 0)
  have ne : (jnD O A B).1 ≠ [] := by
    rcases jcs_4 O A B 0 0 0 with z | z | z | z
    · have e : jnD O A B = (acT A 0, []) := jc.1 z
      rw [e]
      unfold acT
      rw [if_neg (by decide)]
      exact List.cons_ne_nil _ _
    · have e : jnD O A B = (acT B 0, []) := jc.2.1 z
      rw [e]
      unfold acT
      rw [if_neg (by decide)]
      exact List.cons_ne_nil _ _
    · have e := (jnF_2 (f := 12) (p := []) z).2
      have e2 : jnD O A B = jnF O A B (12 + 1) [] 0 0 0 := rfl
      rw [e2, e]
      exact List.cons_ne_nil _ _
    · have e : jnD O A B = ([], [[]]) := jc.2.2 z
      rw [e] at h
      exact absurd h (List.cons_ne_nil _ _)
  have jg' : JG [] (jnD O A B).1 := jg
  match hL : (jnD O A B).1, ne, jg' with
  | [], ne, _ => exact absurd rfl ne
  | [T], _, jg => exact ⟨T, rfl, (jg.2 T List.mem_cons_self).1.1, (jg.2 T List.mem_cons_self).1.2, (jg.2 T List.mem_cons_self).2⟩
  | _ :: _ :: _, _, jg => exact absurd jg.1 (by simp)
theorem q_joins (hd : 15 ≤ d) (hc : cO < 40 ∧ cA < 40 ∧ cB < 40) (hO : DOC O) (hA : DOC A) (hB : DOC B) (hE : JE cO cA cB O A B S) : Ev (fun n => f_X12_joins n d 0 S []) (fun _ S1 => MD S1 40 (apM (some []) ((jnD O A B).1.map mny).flatten) ∧ QmS (jnD O A B).2 S1 ∧ FC (jlP 0 0) S S1) := by
  have l1 := hO.1.1.1.2.1
  have l2 := hA.1.1.1.2.1
  have l3 := hB.1.1.1.2.1
  have lA := hA.2.2.1
  have lB := hB.2.2.1
  have lq : (jnD O A B).2.length ≤ 200 := by
    have := jq_len hO.1.1.1.1 hA.1.1.1.1 hB.1.1.1.1 (pz_l hO.1.1.2) (pz_l hA.1.1.2) (pz_l hB.1.1.2) (kuv_sdc hO.1) (kuv_sdc hA.1) 13 [] 0 0 0 (Or.inr ⟨by omega, by omega⟩) (Or.inr ⟨by omega, by omega⟩) (Or.inr ⟨by omega, by omega⟩)
    have sA : szI A 0 = (nz A 0 : Int) := szI_c (i := 0) (by omega)
    have sB : szI B 0 = (nz B 0 : Int) := szI_c (i := 0) (by omega)
    have wA := hA.1.1.1.1.1 0 (by omega)
    have wB := hB.1.1.1.1.1 0 (by omega)
    have e : (jnD O A B).2.length = (jnF O A B 13 [] 0 0 0).2.length := rfl
    omega
  have jc := jnF_cs (O := O) (A := A) (B := B) (f := 13) (p := []) (o := 0) (a := 0) (b := 0)
  refine ev_up (fun n => e_X12_joins_0) ?_
  unfold b_X12_joins_0
  refine ev_gg (by first | omega | (constructor <;> omega)) ?_
  refine ev_gc (q_begin1 (d := d - 1) (k := 40) (K := 40) rfl (by decide)) (fun _ S3 q3 => ?_)
  obtain ⟨m3, f3⟩ := q3
  refine ev_gv ?_
  refine ev_gg (by decide) ?_
  refine ev_gv ?_
  refine ev_gv ?_
  rw [show (0 : Int).toNat = 0 from rfl]
  have f4 : FC (fun c j => (c = 500 ∧ (j = 57 ∨ j = 29)) ∨ c = 537) S3 (gI (gI (gI S3 500 57 0) 537 0 0) 500 29 0) := fc_tr (fc_gI (Or.inl ⟨rfl, Or.inl rfl⟩)) (fc_tr (fc_gI (Or.inr rfl)) (fc_gI (Or.inl ⟨rfl, Or.inr rfl⟩)))
  have e57 : (gI (gI (gI S3 500 57 0) 537 0 0) 500 29 0).1 500 57 = 0 := by rw [gI_k (by decide), gI_c (by decide), gI_a]
  have e37 : (gI (gI (gI S3 500 57 0) 537 0 0) 500 29 0).1 537 0 = 0 := by rw [gI_c (by decide), gI_a]
  have e29 : (gI (gI (gI S3 500 57 0) 537 0 0) 500 29 0).1 500 29 = 0 := gI_a
  generalize gI (gI (gI S3 500 57 0) 537 0 0) 500 29 0 = S4 at f4 e57 e37 e29 ⊢
  have i4 : FC (jlP 0 0) S S4 := fc_tr (fc_mono f3 (fun c j z => jl_jo (jo_do (Or.inr z)))) (fc_mono f4 (fun c j z => by
    rcases z with ⟨z, y | y⟩ | z
    · exact jl_jo (jo_qm (Or.inl ⟨z, y⟩))
    · exact jl_29 ⟨z, y⟩
    · exact jl_jo (jo_qm (Or.inr (Or.inl z)))))
  have E4 := je_fr hE i4 (by omega) (fun j _ => by omega) (by omega)
  have m4 := mdr_fr m3 f4 (fun j _ _ => by omega) (by omega) (by omega)
  have pa4 : PaS S4 [] := ⟨e29, by decide, fun i hi => absurd hi (Nat.not_lt_zero i), fun x hx => by cases hx⟩
  have qm4 : QmS [] S4 := ⟨e57, by decide, (fun q hq => by cases hq), (fun k hk => by
    have k0 : k = 0 := Nat.le_zero.mp hk
    subst k0
    exact e37), fun j hj => absurd hj (Nat.not_lt_zero j)⟩
  have fin : ∀ S1, MD S1 40 (apM (some []) ((jnD O A B).1.map mny).flatten) → QmS (jnD O A B).2 S1 → FC (jlP 0 0) S S1 → Ev (fun n => f_X12_joins n d 47 S1 [0]) (fun _ S1 => MD S1 40 (apM (some []) ((jnD O A B).1.map mny).flatten) ∧ QmS (jnD O A B).2 S1 ∧ FC (jlP 0 0) S S1) := by
    intro S1 h1 h2 h3
    refine ev_up (fun n => e_X12_joins_47) ?_
    unfold b_X12_joins_47
    refine ev_gg (by decide) ?_
    refine ev_ite (fun _ => ?_) (fun z => by omega)
    exact ev_ret ⟨h1, h2, h3⟩
  refine ev_gc (q_joinsOne (d := d - 1) (M := 0) (o := 0) (a := 0) (b := 0) (p := []) (w := []) (Q := []) (r := some []) (by omega) hc E4.1 E4.2.1 E4.2.2.1 E4.2.2.2 hO hA hB (Or.inr ⟨by omega, by omega⟩) (Or.inr ⟨by omega, by omega⟩) (Or.inr ⟨by omega, by omega⟩) pa4 (fun _ => Nat.zero_le _) qm4 (fun _ => by decide) (by decide) (fun z => by cases z) (fun _ => rfl) (fun _ => hA.2.2.2) (fun _ => hB.2.2.2) m4) (fun y S5 q5 => ?_)
  obtain ⟨j1, pa5, jd5, f5⟩ := q5
  have i5 : FC (jlP 0 0) S S5 := fc_tr i4 (fc_mono f5 (fun c j z => jl_jo z))
  have one : ∀ (s : Int) (k1 k2 : Nat → Option (Int × GS)), y = s → (s = 0 ∨ s = 1) → Ev k1 (fun _ S1 => MD S1 40 (apM (some []) ((jnD O A B).1.map mny).flatten) ∧ QmS (jnD O A B).2 S1 ∧ FC (jlP 0 0) S S1) → Ev (fun n => gg (inr y) (if y ≠ 2 then k1 n else k2 n)) (fun _ S1 => MD S1 40 (apM (some []) ((jnD O A B).1.map mny).flatten) ∧ QmS (jnD O A B).2 S1 ∧ FC (jlP 0 0) S S1) := by
    intro s k1 k2 e hs h
    refine ev_gg (by first | omega | (constructor <;> omega)) ?_
    refine ev_ite (fun _ => h) (fun z => by omega)
  have a01 : ∀ v : Int, (if v = -1 then 0 else 1 : Int) = 0 ∨ (if v = -1 then 0 else 1 : Int) = 1 := fun v => by
    split
    · exact Or.inl rfl
    · exact Or.inr rfl
  rcases jcs_4 O A B 0 0 0 with z | z | z | z
  · obtain ⟨ey, m, q⟩ := j1.1 z
    have e : jnD O A B = (acT A 0, []) := jc.1 z
    exact one _ _ _ ey (a01 _) (fin S5 (by rw [e]; exact m) (by rw [e]; exact q) i5)
  · obtain ⟨ey, m, q⟩ := j1.2.1 z
    have e : jnD O A B = (acT B 0, []) := jc.2.1 z
    exact one _ _ _ ey (a01 _) (fin S5 (by rw [e]; exact m) (by rw [e]; exact q) i5)
  · obtain ⟨ey, m, q, n1⟩ := j1.2.2.1 z
    subst ey
    obtain ⟨⟨c1, c2, c3⟩, ej⟩ := jnF_2 (f := 12) (p := []) z
    have ej' : jnD O A B = ([gpN (5, 1, 0, [], kI A 0) (jvF O A B 12 [] 0 0 0) (jvF O A B 12 [] 0 0 0).length], jqF O A B 12 [] 0 0 0) := ej
    have ka := kd_5 c1 (by decide)
    have kb := kd_5 c2 (by decide)
    have hm : mpO O 0 := c3.elim Or.inl (fun w => Or.inr (kd_5 w (by decide)))
    have jv := jv_ok hO hA hB (f := 12) (p := []) (a := 0) (b := 0) hm (by omega) (by omega)
    rw [ej'] at lq
    refine ev_gg (by decide) ?_
    refine ev_ite (fun w => absurd rfl w) (fun _ => ?_)
    obtain ⟨m', hm1, hm2, hm3⟩ := md_n m
    have m1 : 1 ≤ m' := by omega
    refine ev_gc (q_goesInto (d := d - 1) (t := 0) (m := m') (o := 0) (a := 0) (b := 0) (by decide) (by decide) hm2) (fun _ S10 q10 => ?_)
    obtain ⟨⟨g28, g29, g30⟩, g31, g32, g33, g34, f10⟩ := q10
    have i10 : FC (jlP 0 0) S S10 := fc_tr i5 (fc_mono f10 (fun c j w => jl_fr ⟨w.1, Nat.zero_le _⟩))
    have E10 := je_fr hE i10 (by omega) (fun j _ => by omega) (by omega)
    have m10 := mdr_fr m f10 (fun j _ _ => by omega) (by omega) (by omega)
    refine jn_all (d := d) (by omega) hc hO hA hB 12 0 0 0 0 (m' - 1) [] (some []) (ndM 5) [] S10 _ (by decide) (by decide) (fun x hx => by cases hx) hm ⟨by omega, ka.2.2⟩ ⟨by omega, kb.2.2⟩ (dpO_doc hA) (dpO_doc hB) (by rw [List.length_nil, Nat.zero_add]; exact lq) E10 ⟨⟨g28, g29, g30⟩, by rw [g33]; omega, by rw [g34]; exact pa5.1, fun i hi => absurd hi (Nat.not_lt_zero i)⟩ g31 g32 (by omega) (fun V0 hV0 _ => ?_) m10 (qm_fr q f10 (by omega) (fun j => by omega) (fun j => by omega)) (fun S1 mf qf ff => ?_)
    · have e0 : ([] : List ND) = V0 := Option.some.inj hV0
      subst e0
      have := hm3 [wQ (ndM 5) []] rfl
      rw [List.length_singleton] at this
      rw [List.length_nil]
      omega
    · refine fin S1 ?_ ?_ (fc_tr i10 ff)
      · rw [ej']
        have ek : kI A 0 = [] := by
          have : kI A 0 = nq A (0 : Int).toNat := kI_n (by omega)
          rw [this]
          exact hA.2.2.2
        have eM : mny (gpN (5, 1, 0, [], kI A 0) (jvF O A B 12 [] 0 0 0) (jvF O A B 12 [] 0 0 0).length) = wZ (ndM 5) (jvF O A B 12 [] 0 0 0).length :: ((jvF O A B 12 [] 0 0 0).map mny).flatten := by
          have jv1 : ∀ t ∈ jvF O A B 12 [] 0 0 0, TR t ∧ PZL t := jv.1
          rw [mny_gp (x := (5, 1, 0, [], kI A 0)) (show (4 : Int) ≤ 5 by decide) jv1, ek]
          rfl
        dsimp only
        rw [List.map_cons, List.map_nil, List.flatten_cons, List.flatten_nil, List.append_nil, eM]
        exact mf
      · rw [ej']
        rw [List.nil_append] at qf
        exact qf
  · obtain ⟨ey, m, q⟩ := j1.2.2.2 z
    have e : jnD O A B = ([], [[]]) := jc.2.2 z
    refine one _ _ _ ey (Or.inl rfl) (fin S5 ?_ (by rw [e]; exact q) i5)
    rw [e]
    exact m
end RJ7
