/-! THE REFERENCE joins: all VALUES of a MAP -/
section RJ6
variable {d cO cA cB : Nat} {O A B : List ND}
theorem jcs_b {b : Int} (hb : b ≠ -1) : jCs O A B (-1) (-1) b = 1 := by
  unfold jCs
  have n1 : ¬ alk A (-1) B b := fun z => by
    have := (alk_n (Or.inl rfl)).mp z
    omega
  have n2 : ¬ alk B b O (-1) := fun z => by
    have := (alk_n (Or.inr rfl)).mp z
    omega
  rw [if_neg (fun z => z.elim n1 n2), if_pos ((alk_n (Or.inl rfl)).mpr rfl)]
theorem jn_map {f : Nat} (hd : 13 ≤ d) (hc : cO < 40 ∧ cA < 40 ∧ cB < 40) (hO : DOC O) (hA : DOC A) (hB : DOC B) (IH : ∀ f', f = f' + 1 → JAll cO cA cB O A B d f') : JAll cO cA cB O A B d f := by
  intro top o a b ix p r0 x Q S Qf htop hpl hp hm ha hb dA dB hQ hE hF h31 h32 hix hr0 hmd hq nx
  have jv := (jv_ok hO hA hB (f := f) (p := p) hm ha.1 hb.1).2
  have zO := pz_l hO.1.1.2
  have zA := pz_l hA.1.1.2
  have zB := pz_l hB.1.1.2
  have wO := hO.1.1.1.1
  have wA := hA.1.1.1.1
  have wB := hB.1.1.1.1
  have lO := hO.2.2.1
  have lA := hA.2.2.1
  have lB := hB.2.2.1
  have ia : kidI A (a : Int) = kids A a := by unfold kidI; rw [if_neg (by omega), Int.toNat_natCast]
  have ib : kidI B (b : Int) = kids B b := by unfold kidI; rw [if_neg (by omega), Int.toNat_natCast]
  have eV : jvF O A B f p o (a : Int) (b : Int) = (j1F (jnF O A B f) O A B (a : Int) (b : Int) p (kidI O o)).1 ++ (j2F (jnF O A B f) O A B o (b : Int) p (kids A a)).1 ++ j3F O A B o (a : Int) (kids B b) := by
    show (j1F (jnF O A B f) O A B (a : Int) (b : Int) p (kidI O o)).1 ++ (j2F (jnF O A B f) O A B o (b : Int) p (kidI A (a : Int))).1 ++ j3F O A B o (a : Int) (kidI B (b : Int)) = _
    rw [ia, ib]
  have eQ : jqF O A B f p o (a : Int) (b : Int) = (j1F (jnF O A B f) O A B (a : Int) (b : Int) p (kidI O o)).2 ++ (j2F (jnF O A B f) O A B o (b : Int) p (kids A a)).2 := by
    show (j1F (jnF O A B f) O A B (a : Int) (b : Int) p (kidI O o)).2 ++ (j2F (jnF O A B f) O A B o (b : Int) p (kidI A (a : Int))).2 = _
    rw [ia]
  generalize jvF O A B f p o (a : Int) (b : Int) = ee at jv eV nx
  generalize jqF O A B f p o (a : Int) (b : Int) = qq at hQ eQ nx
  have t16 : top < 16 := by omega
  have je : ∀ S1, FC (jlP top p.length) S S1 → JE cO cA cB O A B S1 := fun S1 f1 => je_fr hE f1 (by omega) (fun j _ => by omega) (by omega)
  have up : ∀ (S1 S2 : GS), FC (jlP top p.length) S S1 → FC (fun c j => (c = 531 ∨ c = 532) ∧ j = top) S1 S2 → FC (jlP top p.length) S S2 := fun S1 S2 f1 f2 => fc_tr f1 (fc_mono f2 (fun c j z => jl_fr ⟨by omega, by omega⟩))
  have up2 : ∀ (S1 S2 : GS), FC (jlP top p.length) S S1 → FC (fun c j => c = 532 ∧ j = top) S1 S2 → FC (jlP top p.length) S S2 := fun S1 S2 f1 f2 => fc_tr f1 (fc_mono f2 (fun c j z => jl_fr ⟨by omega, by omega⟩))
  have up3 : ∀ (S1 S2 : GS), FC (jlP top p.length) S S1 → FC (jlP (top + 1) p.length) S1 S2 → FC (jlP top p.length) S S2 := fun S1 S2 f1 f2 => fc_tr f1 (fc_mono f2 (fun c j z => jl_up (by omega) (Nat.le_refl _) z))
  -- the last row
  have L2 : ∀ (K : List Nat) (e : Nat) (S1 : GS) (E : List (List ND)), ks B e (b + nz B b) = K → e ≤ b + nz B b → (∃ K1, kids B b = K1 ++ K) → JF S1 top o a b ix p → S1.1 531 top = ((2 : Nat) : Int) → S1.1 532 top = (e : Int) → FC (jlP top p.length) S S1 → MD S1 40 (apM r0 (wZ x E.length :: (E.map mny).flatten)) → QmS (Q ++ qq) S1 → E ++ j3F O A B o (a : Int) K = ee → Ev (fun n => f_X12_joins n d 47 S1 [((top + 1 : Nat) : Int)]) Qf := by
    intro K
    induction K with
    | nil =>
      intro e S1 E he hel hks F1 c31 c32 f1 m1 q1 hv
      have ee0 : e = b + nz B b := by
        by_cases z : e < b + nz B b
        · rw [ks_cons zB z] at he
          cases he
        · omega
      have hv' : E = ee := by rw [← hv]; exact (List.append_nil E).symm
      subst hv'
      refine jn_end (ph := 2) (V := B) (cV := cB) (m := b) (e := e) (by omega) hc hB t16 hm ha hb (je S1 f1) F1 (Or.inr (Or.inr ⟨rfl, rfl, rfl, rfl⟩)) c31 c32 ee0 (fun _ S2 f2 => ?_) (fun z => absurd rfl z)
      exact nx S2 (mdr_fr m1 f2 (fun j _ _ => by omega) (by omega) (by omega)) (qm_fr q1 f2 (by omega) (fun j => by omega) (fun j => by omega)) (up S1 S2 f1 f2)
    | cons c K ihK =>
      intro e S1 E he hel hks F1 c31 c32 f1 m1 q1 hv
      obtain ⟨K1, hks⟩ := hks
      have zl : e < b + nz B b := by
        by_cases z : e < b + nz B b
        · exact z
        · rw [ks_nil (by omega)] at he
          cases he
      obtain ⟨rfl, eK⟩ : e = c ∧ ks B (e + nz B e) (b + nz B b) = K := by
        rw [ks_cons zB zl] at he
        exact List.cons.inj he
      have cm : e ∈ kids B b := by rw [hks]; exact List.mem_append_right _ List.mem_cons_self
      have ci := kid_in3 wB zB hb.1 cm
      have own : vLk B (b : Int) (nq B e) = (e : Int) := by
        rw [vLk_c hb.1 hb.2]
        exact fdK_own _ (kuv_sdc hB.1 b hb.1 hb.2) cm
      have e3 : j3F O A B o (a : Int) (e :: K) = (if vLk O o (nq B e) = -1 ∧ vLk A (a : Int) (nq B e) = -1 then [sg B e] else []) ++ j3F O A B o (a : Int) K := rfl
      rw [e3] at hv
      have El : E.length ≤ 300 := by
        have := congrArg List.length hv
        rw [List.length_append] at this
        omega
      refine jn_take (ph := 2) (V := B) (cV := cB) (m := b) (e := e) (by omega) hc hO hA hB hB t16 hm ha hb (je S1 f1) F1 (Or.inr (Or.inr ⟨rfl, rfl, rfl, rfl⟩)) c31 c32 (by omega) ci.2.1 (fun w S2 c32' f2 => ?_) (fun w S2 c32' f2 => ?_)
      · have w' : vLk O o (nq B e) = -1 ∧ vLk A (a : Int) (nq B e) = -1 := by
          rcases w with w | w
          · omega
          · exact ⟨w.1, w.2.elim (fun y => by omega) id⟩
        rw [if_pos w'] at hv
        rw [w'.1, w'.2, own]
        have F2 := jf_fr F1 f2 (by omega) (fun i _ => by omega)
        have f02 := up2 S1 S2 f1 f2
        have m2 := mdr_fr m1 f2 (fun j _ _ => by omega) (by omega) (by omega)
        have q2 := qm_fr q1 f2 (by omega) (fun j => by omega) (fun j => by omega)
        have ej : jnF O A B f (p ++ stp B e) (-1) (-1) (e : Int) = ([sg B e], []) := by
          rw [jnF_cs.2.1 (jcs_b (by omega))]
          unfold acT
          rw [if_neg (by omega), Int.toNat_natCast]
        refine jn_step (f := f) (V := B) (cV := cB) (e := e) (o' := -1) (a' := -1) (b' := (e : Int)) (E := E) (Q := Q ++ qq) hd IH hc hO hA hB htop hpl hp hc.2.2 (je S2 f02).2.2.2 ci.2.1 (stp_map hB.1.1 hb.1 hb.2 hks) (Or.inl rfl) (Or.inl rfl) (Or.inr ⟨by omega, by omega⟩) (fun z => absurd rfl z) (fun _ => by rw [Int.toNat_natCast]) (fun z => absurd rfl z) (dp_kid hB.1.1.2 wB hb.1 hb.2 dB cm) (by rw [ej, List.length_append]; dsimp only [List.length_nil]; omega) (je S2 f02) F2 hix hr0 (by omega) m2 q2 (fun S3 m3 q3 f3 => ?_)
        rw [ej] at m3 q3
        dsimp only at m3 q3
        rw [List.append_nil] at q3
        refine ihK (e + nz B e) S3 (E ++ [sg B e]) eK (by omega) ⟨K1 ++ [e], by rw [hks]; simp⟩ (jf_fr F2 f3 (by omega) (fun i _ => by omega)) ?_ ?_ (up3 S2 S3 f02 f3) m3 q3 (by rw [List.append_assoc]; exact hv)
        · rw [fc_i f3 (by omega), fc_i f2 (by omega)]; exact c31
        · rw [fc_i f3 (by omega)]; exact c32'
      · rw [if_neg (fun y => w (Or.inr ⟨y.1, Or.inr y.2⟩)), List.nil_append] at hv
        refine ihK (e + nz B e) S2 E eK (by omega) ⟨K1 ++ [e], by rw [hks]; simp⟩ (jf_fr F1 f2 (by omega) (fun i _ => by omega)) ?_ c32' (up2 S1 S2 f1 f2) (mdr_fr m1 f2 (fun j _ _ => by omega) (by omega) (by omega)) (qm_fr q1 f2 (by omega) (fun j => by omega) (fun j => by omega)) hv
        rw [fc_i f2 (by omega)]; exact c31
  -- the row before
  have L1 : ∀ (K : List Nat) (e : Nat) (S1 : GS) (E : List (List ND)) (Qd : List (List Int)), ks A e (a + nz A a) = K → e ≤ a + nz A a → (∃ K1, kids A a = K1 ++ K) → JF S1 top o a b ix p → S1.1 531 top = ((1 : Nat) : Int) → S1.1 532 top = (e : Int) → FC (jlP top p.length) S S1 → MD S1 40 (apM r0 (wZ x E.length :: (E.map mny).flatten)) → QmS (Q ++ Qd) S1 → E ++ ((j2F (jnF O A B f) O A B o (b : Int) p K).1 ++ j3F O A B o (a : Int) (kids B b)) = ee → Qd ++ (j2F (jnF O A B f) O A B o (b : Int) p K).2 = qq → Ev (fun n => f_X12_joins n d 47 S1 [((top + 1 : Nat) : Int)]) Qf := by
    intro K
    induction K with
    | nil =>
      intro e S1 E Qd he hel hks F1 c31 c32 f1 m1 q1 hv hqq
      have ee0 : e = a + nz A a := by
        by_cases z : e < a + nz A a
        · rw [ks_cons zA z] at he
          cases he
        · omega
      have hq' : Qd = qq := by rw [← hqq]; exact (List.append_nil Qd).symm
      subst hq'
      have wb := wB.1 b hb.1
      refine jn_end (ph := 1) (V := A) (cV := cA) (m := a) (e := e) (by omega) hc hA t16 hm ha hb (je S1 f1) F1 (Or.inr (Or.inl ⟨rfl, rfl, rfl, rfl⟩)) c31 c32 ee0 (fun z => by omega) (fun _ S2 f2 d31 d32 => ?_)
      rw [if_neg (by decide), F1.1.2.2] at d32
      have wb1 : 1 ≤ nz B b := zB b
      exact L2 (kids B b) (b + 1) S2 E rfl (by omega) ⟨[], rfl⟩ (jf_fr F1 f2 (by omega) (fun i _ => by omega)) d31 (by rw [d32]; rfl) (up S1 S2 f1 f2) (mdr_fr m1 f2 (fun j _ _ => by omega) (by omega) (by omega)) (qm_fr q1 f2 (by omega) (fun j => by omega) (fun j => by omega)) hv
    | cons c K ihK =>
      intro e S1 E Qd he hel hks F1 c31 c32 f1 m1 q1 hv hqq
      obtain ⟨K1, hks⟩ := hks
      have zl : e < a + nz A a := by
        by_cases z : e < a + nz A a
        · exact z
        · rw [ks_nil (by omega)] at he
          cases he
      obtain ⟨rfl, eK⟩ : e = c ∧ ks A (e + nz A e) (a + nz A a) = K := by
        rw [ks_cons zA zl] at he
        exact List.cons.inj he
      have cm : e ∈ kids A a := by rw [hks]; exact List.mem_append_right _ List.mem_cons_self
      have ci := kid_in3 wA zA ha.1 cm
      have own : vLk A (a : Int) (nq A e) = (e : Int) := by
        rw [vLk_c ha.1 ha.2]
        exact fdK_own _ (kuv_sdc hA.1 a ha.1 ha.2) cm
      have e3 : j2F (jnF O A B f) O A B o (b : Int) p (e :: K) = if vLk O o (nq A e) = -1 then ((jnF O A B f (p ++ stp A e) (-1) (e : Int) (vLk B (b : Int) (nq A e))).1 ++ (j2F (jnF O A B f) O A B o (b : Int) p K).1, (jnF O A B f (p ++ stp A e) (-1) (e : Int) (vLk B (b : Int) (nq A e))).2 ++ (j2F (jnF O A B f) O A B o (b : Int) p K).2) else j2F (jnF O A B f) O A B o (b : Int) p K := rfl
      rw [e3] at hv hqq
      have El : E.length ≤ 300 := by
        have := congrArg List.length hv
        rw [List.length_append] at this
        omega
      refine jn_take (ph := 1) (V := A) (cV := cA) (m := a) (e := e) (by omega) hc hO hA hB hA t16 hm ha hb (je S1 f1) F1 (Or.inr (Or.inl ⟨rfl, rfl, rfl, rfl⟩)) c31 c32 (by omega) ci.2.1 (fun w S2 c32' f2 => ?_) (fun w S2 c32' f2 => ?_)
      · have w' : vLk O o (nq A e) = -1 := by
          rcases w with w | w
          · omega
          · exact w.1
        rw [if_pos w'] at hv hqq
        dsimp only at hv hqq
        rw [w', own]
        have F2 := jf_fr F1 f2 (by omega) (fun i _ => by omega)
        have f02 := up2 S1 S2 f1 f2
        have m2 := mdr_fr m1 f2 (fun j _ _ => by omega) (by omega) (by omega)
        have q2 := qm_fr q1 f2 (by omega) (fun j => by omega) (fun j => by omega)
        have hl : (Q ++ Qd).length + (jnF O A B f (p ++ stp A e) (-1) (e : Int) (vLk B (b : Int) (nq A e))).2.length ≤ 200 := by
          have := congrArg List.length hqq
          rw [List.length_append, List.length_append] at this
          rw [List.length_append]
          omega
        refine jn_step (f := f) (V := A) (cV := cA) (e := e) (o' := -1) (a' := (e : Int)) (b' := vLk B (b : Int) (nq A e)) (E := E) (Q := Q ++ Qd) hd IH hc hO hA hB htop hpl hp hc.2.1 (je S2 f02).2.2.1 ci.2.1 (stp_map hA.1.1 ha.1 ha.2 hks) (Or.inl rfl) (Or.inr ⟨by omega, by omega⟩) (vLk_r wB zB _ _) (fun _ => by rw [Int.toNat_natCast]) vLk_key (dp_kid hA.1.1.2 wA ha.1 ha.2 dA cm) (dp_vl hB.1.1.2 wB hb.1 hb.2 dB _) hl (je S2 f02) F2 hix hr0 (by omega) m2 q2 (fun S3 m3 q3 f3 => ?_)
        rw [List.append_assoc] at q3
        refine ihK (e + nz A e) S3 _ _ eK (by omega) ⟨K1 ++ [e], by rw [hks]; simp⟩ (jf_fr F2 f3 (by omega) (fun i _ => by omega)) ?_ ?_ (up3 S2 S3 f02 f3) m3 q3 (by rw [← hv]; simp only [List.append_assoc]) (by rw [← hqq]; simp only [List.append_assoc])
        · rw [fc_i f3 (by omega), fc_i f2 (by omega)]; exact c31
        · rw [fc_i f3 (by omega)]; exact c32'
      · rw [if_neg (fun y => w (Or.inr ⟨y, Or.inl rfl⟩))] at hv hqq
        refine ihK (e + nz A e) S2 E Qd eK (by omega) ⟨K1 ++ [e], by rw [hks]; simp⟩ (jf_fr F1 f2 (by omega) (fun i _ => by omega)) ?_ c32' (up2 S1 S2 f1 f2) (mdr_fr m1 f2 (fun j _ _ => by omega) (by omega) (by omega)) (qm_fr q1 f2 (by omega) (fun j => by omega) (fun j => by omega)) hv hqq
        rw [fc_i f2 (by omega)]; exact c31
  have za1 : 1 ≤ nz A a := zA a
  rcases hm with ho | ho
  · -- no MAP there
    subst ho
    have ek : kidI O (-1) = [] := by unfold kidI; rw [if_pos rfl]
    rw [ek] at eV eQ
    refine jn_none (by omega) t16 hF.1.1 h31 (fun S2 f2 d31 d32 => ?_)
    rw [hF.1.2.1] at d32
    refine L1 (kids A a) (a + 1) S2 [] [] rfl (by omega) ⟨[], rfl⟩ (jf_fr hF f2 (by omega) (fun i _ => by omega)) d31 (by rw [d32]; rfl) (up S S2 fc_rf f2) (mdr_fr hmd f2 (fun j _ _ => by omega) (by omega) (by omega)) ?_ ?_ ?_
    · rw [List.append_nil]
      exact qm_fr hq f2 (by omega) (fun j => by omega) (fun j => by omega)
    · rw [eV]
      rfl
    · rw [eQ]
      rfl
  · obtain ⟨m, rfl⟩ : ∃ m : Nat, o = (m : Int) := ⟨o.toNat, by omega⟩
    rw [Int.toNat_natCast] at ho
    have ml : m < O.length := by omega
    have hm : mpO O (m : Int) := Or.inr ⟨by omega, by omega, by rw [Int.toNat_natCast]; exact ho.2.2⟩
    have io : kidI O (m : Int) = kids O m := by unfold kidI; rw [if_neg (by omega), Int.toNat_natCast]
    rw [io] at eV eQ
    have zm1 : 1 ≤ nz O m := zO m
    have L0 : ∀ (K : List Nat) (e : Nat) (S1 : GS) (E : List (List ND)) (Qd : List (List Int)), ks O e (m + nz O m) = K → e ≤ m + nz O m → (∃ K1, kids O m = K1 ++ K) → JF S1 top (m : Int) a b ix p → S1.1 531 top = ((0 : Nat) : Int) → S1.1 532 top = (e : Int) → FC (jlP top p.length) S S1 → MD S1 40 (apM r0 (wZ x E.length :: (E.map mny).flatten)) → QmS (Q ++ Qd) S1 → E ++ ((j1F (jnF O A B f) O A B (a : Int) (b : Int) p K).1 ++ (j2F (jnF O A B f) O A B (m : Int) (b : Int) p (kids A a)).1 ++ j3F O A B (m : Int) (a : Int) (kids B b)) = ee → Qd ++ ((j1F (jnF O A B f) O A B (a : Int) (b : Int) p K).2 ++ (j2F (jnF O A B f) O A B (m : Int) (b : Int) p (kids A a)).2) = qq → Ev (fun n => f_X12_joins n d 47 S1 [((top + 1 : Nat) : Int)]) Qf := by
      intro K
      induction K with
      | nil =>
        intro e S1 E Qd he hel hks F1 c31 c32 f1 m1 q1 hv hqq
        have ee0 : e = m + nz O m := by
          by_cases z : e < m + nz O m
          · rw [ks_cons zO z] at he
            cases he
          · omega
        refine jn_end (ph := 0) (V := O) (cV := cO) (m := m) (e := e) (by omega) hc hO t16 hm ha hb (je S1 f1) F1 (Or.inl ⟨rfl, rfl, rfl, rfl⟩) c31 c32 ee0 (fun z => by omega) (fun _ S2 f2 d31 d32 => ?_)
        rw [if_pos rfl, F1.1.2.1] at d32
        exact L1 (kids A a) (a + 1) S2 E Qd rfl (by omega) ⟨[], rfl⟩ (jf_fr F1 f2 (by omega) (fun i _ => by omega)) d31 (by rw [d32]; rfl) (up S1 S2 f1 f2) (mdr_fr m1 f2 (fun j _ _ => by omega) (by omega) (by omega)) (qm_fr q1 f2 (by omega) (fun j => by omega) (fun j => by omega)) hv hqq
      | cons c K ihK =>
        intro e S1 E Qd he hel hks F1 c31 c32 f1 m1 q1 hv hqq
        obtain ⟨K1, hks⟩ := hks
        have zl : e < m + nz O m := by
          by_cases z : e < m + nz O m
          · exact z
          · rw [ks_nil (by omega)] at he
            cases he
        obtain ⟨rfl, eK⟩ : e = c ∧ ks O (e + nz O e) (m + nz O m) = K := by
          rw [ks_cons zO zl] at he
          exact List.cons.inj he
        have cm : e ∈ kids O m := by rw [hks]; exact List.mem_append_right _ List.mem_cons_self
        have ci := kid_in3 wO zO ml cm
        have own : vLk O (m : Int) (nq O e) = (e : Int) := by
          rw [vLk_c ml ho.2.2]
          exact fdK_own _ (kuv_sdc hO.1 m ml ho.2.2) cm
        have e3 : j1F (jnF O A B f) O A B (a : Int) (b : Int) p (e :: K) = ((jnF O A B f (p ++ stp O e) (e : Int) (vLk A (a : Int) (nq O e)) (vLk B (b : Int) (nq O e))).1 ++ (j1F (jnF O A B f) O A B (a : Int) (b : Int) p K).1, (jnF O A B f (p ++ stp O e) (e : Int) (vLk A (a : Int) (nq O e)) (vLk B (b : Int) (nq O e))).2 ++ (j1F (jnF O A B f) O A B (a : Int) (b : Int) p K).2) := rfl
        rw [e3] at hv hqq
        dsimp only at hv hqq
        have El : E.length ≤ 300 := by
          have := congrArg List.length hv
          rw [List.length_append] at this
          omega
        refine jn_take (ph := 0) (V := O) (cV := cO) (m := m) (e := e) (by omega) hc hO hA hB hO t16 hm ha hb (je S1 f1) F1 (Or.inl ⟨rfl, rfl, rfl, rfl⟩) c31 c32 (by omega) ci.2.1 (fun w S2 c32' f2 => ?_) (fun w S2 c32' f2 => absurd (Or.inl rfl) w)
        rw [own]
        have F2 := jf_fr F1 f2 (by omega) (fun i _ => by omega)
        have f02 := up2 S1 S2 f1 f2
        have m2 := mdr_fr m1 f2 (fun j _ _ => by omega) (by omega) (by omega)
        have q2 := qm_fr q1 f2 (by omega) (fun j => by omega) (fun j => by omega)
        have hl : (Q ++ Qd).length + (jnF O A B f (p ++ stp O e) (e : Int) (vLk A (a : Int) (nq O e)) (vLk B (b : Int) (nq O e))).2.length ≤ 200 := by
          have := congrArg List.length hqq
          rw [List.length_append, List.length_append, List.length_append] at this
          rw [List.length_append]
          omega
        refine jn_step (f := f) (V := O) (cV := cO) (e := e) (o' := (e : Int)) (a' := vLk A (a : Int) (nq O e)) (b' := vLk B (b : Int) (nq O e)) (E := E) (Q := Q ++ Qd) hd IH hc hO hA hB htop hpl hp hc.1 (je S2 f02).2.1 ci.2.1 (stp_map hO.1.1 ml ho.2.2 hks) (Or.inr ⟨by omega, by omega⟩) (vLk_r wA zA _ _) (vLk_r wB zB _ _) vLk_key vLk_key (dp_vl hA.1.1.2 wA ha.1 ha.2 dA _) (dp_vl hB.1.1.2 wB hb.1 hb.2 dB _) hl (je S2 f02) F2 hix hr0 (by omega) m2 q2 (fun S3 m3 q3 f3 => ?_)
        rw [List.append_assoc] at q3
        refine ihK (e + nz O e) S3 _ _ eK (by omega) ⟨K1 ++ [e], by rw [hks]; simp⟩ (jf_fr F2 f3 (by omega) (fun i _ => by omega)) ?_ ?_ (up3 S2 S3 f02 f3) m3 q3 (by rw [← hv]; simp only [List.append_assoc]) (by rw [← hqq]; simp only [List.append_assoc])
        · rw [fc_i f3 (by omega), fc_i f2 (by omega)]; exact c31
        · rw [fc_i f3 (by omega)]; exact c32'
    rw [if_neg (by omega)] at h32
    refine L0 (kids O m) (m + 1) S [] [] rfl (by omega) ⟨[], rfl⟩ hF h31 (by rw [h32]; rfl) fc_rf hmd (by rw [List.append_nil]; exact hq) ?_ ?_
    · rw [eV]
      rfl
    · rw [eQ]
      rfl
theorem jn_all (hd : 13 ≤ d) (hc : cO < 40 ∧ cA < 40 ∧ cB < 40) (hO : DOC O) (hA : DOC A) (hB : DOC B) : ∀ f, JAll cO cA cB O A B d f
  | 0 => jn_map hd hc hO hA hB (fun f' h => by omega)
  | f + 1 => jn_map hd hc hO hA hB (fun f' h => by
    have e : f = f' := by omega
    exact e ▸ jn_all hd hc hO hA hB f)
end RJ6
