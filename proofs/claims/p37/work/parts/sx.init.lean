/-! THE CONSTRUCTORS -/
set_option maxRecDepth 100000 in
theorem std_nr : nrH false 13 stT = stT := by decide +kernel
theorem std_rng : ∀ x ∈ stdL, 0 ≤ x ∧ x < 256 := by decide +kernel
theorem std_len : stdL.length ≤ 900 := by decide +kernel
theorem std_doc : DOC stT := by
  have h := (rdA_doc (h := false) std_rd std_rng).1
  rw [std_nr] at h
  exact h
theorem s0c_good : Good S0c := by
  refine ⟨fun c k _ => ?_, fun c k _ => ?_, fun c k => ?_⟩
  · show inr 0
    decide
  · show (0 : Int) ≤ 0 ∧ (0 : Int) < 65536
    decide
  · show (match c, k with | 470, 5 => 430 | 477, 5 => 352 | 477, 6 => 352 | 477, 7 => 352 | 485, 4 => 392 | 485, 5 => 392 | 485, 6 => 392 | 487, 9 => 400 | 487, 10 => 400 | _, _ => 0 : Nat) < 495
    split <;> decide
theorem s0c_cls : ClS [] [] [] [] 0 [] [] [] S0c := by
  have tv : TV S0c 328 [] := ⟨rfl, by decide, fun i hi => absurd hi (Nat.not_lt_zero i), fun x hx => by cases hx⟩
  refine ⟨⟨rfl, by decide, fun i hi => absurd hi (Nat.not_lt_zero i)⟩, ⟨⟨rfl, Nat.zero_le _, (fun i hi => absurd hi (Nat.not_lt_zero i)), fun x hx => by cases hx⟩, by decide⟩, ⟨rfl, Nat.zero_le _, (fun i hi => absurd hi (Nat.not_lt_zero i)), fun x hx => by cases hx⟩, ⟨rfl, by decide, by decide⟩, ⟨⟨rfl, (fun k hk => absurd hk (Nat.not_lt_zero k)), fun i hi => ?_⟩, List.nodup_nil, fun x hx => by cases hx⟩, ⟨rfl, ⟨rfl, Nat.zero_le _, (fun i hi => absurd hi (Nat.not_lt_zero i)), fun x hx => by cases hx⟩, (fun k hk => absurd hk (Nat.not_lt_zero k)), by decide, fun q hq => by cases hq⟩, ⟨rfl, by decide, fun k hk => absurd hk (Nat.not_lt_zero k)⟩, ⟨tv, rfl⟩, s0c_good⟩
  rw [decide_eq_false (fun z => by cases z)]
  rfl
section INI
variable {S S1 : GS} {T0 T1 : List ND} {Ds : List (List ND)} {pg pp : List Int} {r : Int} {L : List Nat} {Q : List (List Int)} {C : List (Int × Int)} {d : Nat}
/-- THE STANDARD changes -/
theorem cl_std (h : ClS T0 Ds pg pp r L Q C S) (hf : Fr (trM 328) S S1) (hT : TO 328 (T1, false) S1) (hG : Good S1) : ClS T1 Ds pg pp r L Q C S1 := by
  obtain ⟨⟨n1, n2, n3⟩, ⟨p1, p2⟩, q1, ⟨r1, r2⟩, f1, u1, c1, t1, g⟩ := h
  have no : ∀ k, ¬ (328 ≤ k ∧ k < 336) → ¬ trM 328 k := fun k hk z => hk (by unfold trM at z; omega)
  have n468 := hf 468 (no _ (by omega))
  exact ⟨⟨by rw [n468.1]; exact n1, n2, fun i hi => ⟨to_fr (n3 i hi).1 hf (fun k a b => no _ (by omega)), (n3 i hi).2⟩⟩, ⟨sv_fr p1 hf (no _ (by omega)) (no _ (by omega)), p2⟩, sv_fr q1 hf (no _ (by omega)) (no _ (by omega)), ⟨by rw [n468.1]; exact r1, r2⟩, fsl_fr f1 hf (no _ (by omega)) (no _ (by omega)) (no _ (by omega)), qu_fr u1 hf (no _ (by omega)) (no _ (by omega)) (no _ (by omega)) (no _ (by omega)), cp_fr c1 hf (by rw [(hf 487 (no _ (by omega))).1]) (no _ (by omega)) (no _ (by omega)), hT, hG⟩
theorem c_init : Ev (fun n => f_X11_init n 2035 193 S0c []) (fun _ S1 => ClS stT [] [] [] 0 [] [] [] S1) := by
  refine ev_up (fun n => e_X11_init_193) ?_
  unfold b_X11_init_193
  refine ev_gg (by decide) ?_
  refine ev_gc (s8_standardTo (s := 428) (d := 2035 - 1) (by decide) (by decide) s0c_good (by decide)) (fun _ S1 q1 => ?_)
  have h1 := cl_fr s0c_cls q1.2.1 (fun k z => by
    unfold shM at z
    unfold wkM
    omega) q1.2.2
  have sv1 : SV S1 428 stdL := q1.1
  refine ev_gc (rd_parse (c2 := 428) (s := stdL) (how := 0) (d := 2035 - 1) q1.2.2 ⟨by decide, by decide, by decide, by decide, std_rng, by have := std_len; omega⟩ sv1 (by decide) (by decide)) (fun x S2 q2 => ?_)
  obtain ⟨f2, g2, q2⟩ := q2
  rw [std_rd] at q2
  obtain ⟨_, t2⟩ := q2
  have t2' : TO 336 (stT, false) S2 := by
    have : TO 336 (nrH false 13 stT, false) S2 := t2
    rw [std_nr] at this
    exact this
  have h2 := cl_fr h1 f2 (fun k z => by
    have z' : (336 ≤ k ∧ k < 352) ∨ (430 ≤ k ∧ k < 436) ∨ k = 470 := z
    unfold wkM
    omega) g2
  have rr : Rd (fun n => f_X6_result n (2035 - 1) 0 S2 []) 336 S2 := by
    refine ev_up (fun n => e_X6_result_0) ?_
    unfold b_X6_result_0
    exact ev_ret ⟨rfl, rfl⟩
  refine ev_gcr (rr) ?_
  rw [show ((336 : Int)).toNat = 336 from rfl]
  have l1 := std_doc.1.1.1.2.1
  have sz : szI stT 0 = (stT.length : Int) := by decide +kernel
  refine ev_gc (ty_copyOf (c := 328) (c2 := 336) (U := stT) (o := false) (f := 0) (d := 2035 - 1) (by decide) (by decide) (by decide) (by decide) t2'.1 t2'.2 (by decide) (Or.inl (by rw [sz]; omega)) g2) (fun _ S3 q3 => ?_)
  refine ev_ret ?_
  have ec0 : (cpW stT false 0).1 = stT ∧ (cpW stT false 0).2 = false := by decide +kernel
  have ec : cpW stT false 0 = (stT, false) := Prod.ext ec0.1 ec0.2
  rw [ec] at q3
  exact cl_std h2 q3.2.2.1 ⟨q3.1, q3.2.1⟩ q3.2.2.2
end INI
