/-! JOINING: DOCUMENTS, and the PATHS of QUARRELS -/
theorem kuv_sdc {V : List ND} (h : SDC V) : KUV V := by
  intro i hi h5
  have s := sdc_sg _ V (Nat.le_refl _) h i hi
  have k := s.2.2 1
  have rk5 : rk (sg V i) = 5 := by
    show ((sg V i).getD 0 nd0).1 = 5
    rw [sg_root hi (pz_l h.1.2 i)]
    exact h5
  have n := k.1 rk5
  rw [kd_sg h.1.2 h.1.1.1 hi, List.map_map] at n
  have e : (kids V i).map (rq ∘ sg V) = (kids V i).map (nq V) := by
    refine List.map_congr_left (fun c hc => ?_)
    have cl := kids_in h.1.1.1 (pz_l h.1.2) hi hc
    show ((sg V c).getD 0 nd0).2.2.2.2 = (V.getD c nd0).2.2.2.2
    rw [sg_root cl (pz_l h.1.2 c)]
  rw [e] at n
  exact n
/-- what joining two DOCUMENTS with a third one comes to -/
def jnD (O A B : List ND) : JR := jnF O A B 13 [] 0 0 0
section JTOP
variable {S S0 : GS} {cO cA cB d : Nat} {O A B : List ND} {Qo Q : List (List Int)}
theorem jn_top (h3 : dok cO ∧ dok cA ∧ dok cB) (hd : 70 ≤ d) (dO : DOC O) (dA : DOC A) (dB : DOC B) (hO : TO cO (O, false) S) (hA : TO cA (A, false) S) (hB : TO cB (B, false) S) (hQ : QuS Qo S) (hG : Good S) : Ev (fun n => f_X4_unite n d 0 S [((cO : Nat) : Int), ((cA : Nat) : Int), ((cB : Nat) : Int)]) (fun x S1 => x = (if (jnD O A B).2 = [] then 1 else 0) ∧ MdR (apM (some []) (jnD O A B).1.flatten) S1 ∧ QuS (if (jnD O A B).2 = [] then Qo else (jnD O A B).2) S1 ∧ Fr joM S S1 ∧ Good S1) := by
  have wO := dO.1.1.1.1
  have wA := dA.1.1.1.1
  have wB := dB.1.1.1.1
  have lO1 := dO.1.1.1.2.1
  have lA1 := dA.1.1.1.2.1
  have lB1 := dB.1.1.1.2.1
  have lA := dA.2.2.1
  have lB := dB.2.2.1
  have zA : nz A 0 = A.length := dA.1.1.1.2.2
  have zB : nz B 0 = B.length := dB.1.1.1.2.2
  have dpA : dpO A 0 13 := fun _ g => by
    have := dA.2.1 g
    rw [show (0 : Int).toNat = 0 from rfl, sg_self dA.1.1.1]
    omega
  have dpB : dpO B 0 13 := fun _ g => by
    have := dB.2.1 g
    rw [show (0 : Int).toNat = 0 from rfl, sg_self dB.1.1.1]
    omega
  refine ev_up (fun n => e_X4_unite_0) ?_
  unfold b_X4_unite_0
  refine ev_gv ?_
  refine ev_gv ?_
  refine ev_gv ?_
  refine ev_gv ?_
  generalize hS1 : gB (gR (gR (gR S 485 4 cO) 485 5 cA) 485 6 cB) 485 8 (decide ((0 : Int) = 1)) = S1
  have f1 : Fr (fun k => k = 485) S S1 := by rw [← hS1]; exact fr_tr (fr_gR rfl) (fr_tr (fr_gR rfl) (fr_tr (fr_gR rfl) (fr_gB rfl)))
  have G1 : Good S1 := by rw [← hS1]; exact good_gR (good_gR (good_gR hG (by have := h3.1.2; omega)) (by have := h3.2.1.2; omega)) (by have := h3.2.2.2; omega)
  have e4 : S1.2.2 485 4 = cO := by rw [← hS1]; show (gR (gR (gR S 485 4 cO) 485 5 cA) 485 6 cB).2.2 485 4 = _; rw [gR_k (by decide), gR_k (by decide), gR_a]
  have e5 : S1.2.2 485 5 = cA := by rw [← hS1]; show (gR (gR (gR S 485 4 cO) 485 5 cA) 485 6 cB).2.2 485 5 = _; rw [gR_k (by decide), gR_a]
  have e6 : S1.2.2 485 6 = cB := by rw [← hS1]; show (gR (gR (gR S 485 4 cO) 485 5 cA) 485 6 cB).2.2 485 6 = _; rw [gR_a]
  have e8 : S1.2.1 485 8 = false := by rw [← hS1, gB_a]; rfl
  have e1 : S1.1 = S.1 := by rw [← hS1]; rfl
  have hQ1 : QuS Qo S1 := ⟨by rw [e1]; exact hQ.1, sv_fr hQ.2.1 f1 (by omega) (by omega), fun k hk => by rw [e1]; exact hQ.2.2.1 k hk, hQ.2.2.2⟩
  have hO1 := to_fr hO f1 (fun k a b => by have := h3.1.2; omega)
  have hA1 := to_fr hA f1 (fun k a b => by have := h3.2.1.2; omega)
  have hB1 := to_fr hB f1 (fun k a b => by have := h3.2.2.2; omega)
  refine ev_gg (by omega) ?_
  refine ev_gc (ty_clear gT392 G1) (fun _ S2 q2 => ?_)
  have n2 := q2.2.2.1 485 (by unfold trM; omega)
  have t2 : ∀ {c : Nat} {T : List ND}, dok c → TO c (T, false) S1 → TO c (T, false) S2 := fun hc h => to_fr h q2.2.2.1 (fun k a b => by have := hc.2; unfold trM; omega)
  refine ev_gc (sx_clear gSh456 q2.2.2.2) (fun _ S3 q3 => ?_)
  have n3 := q3.2.1 485 (by unfold shM; omega)
  have t3 : ∀ {c : Nat} {T : List ND}, dok c → TO c (T, false) S2 → TO c (T, false) S3 := fun hc h => to_fr h q3.2.1 (fun k a b => by have := hc.2; unfold shM; omega)
  have hq3 : QuS Qo S3 := qu_fr (qu_fr hQ1 q2.2.2.1 (by unfold trM; omega) (by unfold trM; omega) (by unfold trM; omega) (by unfold trM; omega)) q3.2.1 (by unfold shM; omega) (by unfold shM; omega) (by unfold shM; omega) (by unfold shM; omega)
  have st : JnS cO cA cB O A B Qo [] (some []) [] S S3 := by
    refine ⟨⟨by rw [n3.2.2, n2.2.2]; exact e4, by rw [n3.2.2, n2.2.2]; exact e5, by rw [n3.2.2, n2.2.2]; exact e6⟩, ⟨t3 h3.1 (t2 h3.1 hO1), t3 h3.2.1 (t2 h3.2.1 hA1), t3 h3.2.2 (t2 h3.2.2 hB1)⟩, ⟨q3.1, fun x hx => by cases hx⟩, ?_, ⟨by rw [n3.2.1, n2.2.1]; exact e8, hq3⟩, ?_, q3.2.2⟩
    · exact to_fr (W := ([], false)) (to_ty q2) q3.2.1 (fun k a b => by unfold shM; omega)
    · refine fr_tr (fr_mono f1 (fun k z => Or.inr (Or.inr (Or.inl z)))) (fr_tr (fr_mono q2.2.2.1 (fun k z => Or.inl z)) (fr_mono q3.2.1 (fun k z => ?_)))
      unfold shM at z; unfold joM; omega
  have un := jn_unite (S0 := S) (Qo := Qo) h3 wO wA wB (kuv_sdc dO.1) (kuv_sdc dA.1) 13 (d - 1) (Nat.le_refl _) (by omega) S3 [] 0 0 0 (some []) [] (by decide) (Or.inr (by omega)) (Or.inr (by omega)) (Or.inr (by omega)) dpA dpB (by
    have a1 : szI A 0 = (nz A 0 : Int) := szI_c (i := 0) (by omega)
    have b1 : szI B 0 = (nz B 0 : Int) := szI_c (i := 0) (by omega)
    rw [a1, b1]
    simp only [List.length_nil]
    omega) st
  rw [show (13 : Int) - ((13 : Nat) : Int) = 0 by decide] at un
  refine ev_gc un (fun _ S4 q4 => ?_)
  have q4' : JnS cO cA cB O A B Qo [] (apM (some []) (jnD O A B).1.flatten) ([] ++ (jnD O A B).2) S S4 := q4
  rw [List.nil_append] at q4'
  obtain ⟨-, -, -, m1, ⟨m2, m3⟩, m4, m5⟩ := q4'
  refine ev_gv ?_
  rw [m2]
  by_cases c : (jnD O A B).2 = []
  · rw [if_pos c, decide_eq_false (fun z => z c)]
    refine ev_gg (by decide) ?_
    refine ev_ite (fun z => absurd rfl z) (fun _ => ?_)
    exact ev_ret ⟨rfl, m1, m3, m4, m5⟩
  · rw [if_neg c, decide_eq_true c]
    refine ev_gg (by decide) ?_
    refine ev_ite (fun _ => ?_) (fun z => absurd (by decide) z)
    exact ev_ret ⟨rfl, m1, m3, m4, m5⟩
theorem jn_count (hQ : QuS Q S) : Rd (fun n => f_X4_count n d 0 S []) (Q.length : Int) S := by
  refine ev_up (fun n => e_X4_count_0) ?_
  unfold b_X4_count_0
  refine ev_gv ?_
  rw [hQ.1]
  exact ev_ret ⟨rfl, rfl⟩
theorem jn_result : Rd (fun n => f_X4_result n d 0 S []) 392 S := by
  refine ev_up (fun n => e_X4_result_0) ?_
  unfold b_X4_result_0
  exact ev_ret ⟨rfl, rfl⟩
end JTOP
