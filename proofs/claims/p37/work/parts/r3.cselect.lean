/-! THE CLASS's select -/
section CSE
variable {S S1 : GS} {T0 : List ND} {Ds : List (List ND)} {pg pp : List Int} {r : Int} {L L1 : List Nat} {Q : List (List Int)} {C : List (Int × Int)} {d : Nat}
/-- what was found changes -/
theorem cl_fnd {M : Nat → Prop} (h : ClS T0 Ds pg pp r L Q C S) (hf : Fr M S S1) (hM : ∀ k, M k → skM k) (hL : FsL L1 S1 ∧ FdL 100 L1) (hG : Good S1) : ClS T0 Ds pg pp r L1 Q C S1 := by
  obtain ⟨⟨n1, n2, n3⟩, ⟨p1, p2⟩, q1, ⟨r1, r2⟩, f1, u1, c1, t1, g⟩ := h
  have no : ∀ k, (k < 440 ∨ (446 ≤ k ∧ k < 473) ∨ 477 ≤ k) → ¬ M k := fun k hk z => by
    have z' : (k = 473 ∨ k = 474 ∨ k = 476 ∨ (440 ≤ k ∧ k < 446)) ∨ k = 475 := hM k z
    omega
  have n468 := hf 468 (no _ (by omega))
  have n487 := hf 487 (no _ (by omega))
  exact ⟨⟨by rw [n468.1]; exact n1, n2, fun i hi => ⟨to_fr (n3 i hi).1 hf (fun k a b => no _ (by omega)), (n3 i hi).2⟩⟩, ⟨sv_fr p1 hf (no _ (by omega)) (no _ (by omega)), p2⟩, sv_fr q1 hf (no _ (by omega)) (no _ (by omega)), ⟨by rw [n468.1]; exact r1, r2⟩, hL, qu_fr u1 hf (no _ (by omega)) (no _ (by omega)) (no _ (by omega)) (no _ (by omega)), cp_fr c1 hf (by rw [n487.1]) (no _ (by omega)) (no _ (by omega)), to_fr t1 hf (fun k a b => no _ (by omega)), hG⟩
theorem wr_ok {V : List ND} (h : DOC V) : WrOK V := fun i hi => by
  obtain ⟨s1, s2, s3⟩ := doc_sg h hi
  have := wr_len 12 (sg V i) 0 0 s1 s3 s2 (by decide)
  exact ⟨by omega, s2 13⟩
theorem c_select {a : Int} (h : ClS T0 Ds pg pp r L Q C S) (hd : 60 ≤ d) (ha : inr a) (hpg : rng pg) : Ev (fun m => f_X11_select m d 0 S [a]) (fun x S1 => if hasD Ds a then (if isP pg then x = ((seekL pg (atD' Ds a)).length : Int) ∧ ClS T0 Ds [] pp r (seekL pg (atD' Ds a)) Q C S1 else x = exB + 2 ∧ ClS T0 Ds pg pp r L Q C S1) else x = exB + 3 ∧ ClS T0 Ds pg pp r L Q C S1) := by
  have ex := ex_e
  have n4 := h.1.2.1
  refine ev_up (fun n => e_X11_select_0) ?_
  unfold b_X11_select_0
  refine ev_gg (by first | omega | (constructor <;> omega)) ?_
  refine ev_gcr (cl_doc (d := d - 1) h ha) ?_
  by_cases c : hasD Ds a
  · have at_ := cl_at h c
    rw [if_pos c]
    simp only [if_pos c]
    refine ev_ite (fun _ => ?_) (fun z => by omega)
    rw [Int.toNat_natCast]
    have dA : DOC (atD' Ds a) := at_.2.2
    refine ev_gc (c_loadPage (d := d - 1) h (by omega)) (fun y S2 q2 => ?_)
    obtain ⟨q2, h2⟩ := q2
    have gA := at_.1
    rcases q2 with ⟨ip, ye, ro⟩ | ⟨ip, ye⟩
    · subst ye
      refine ev_ite (fun _ => ?_) (fun z => by omega)
      refine ev_gc (sx_clear (d := d - 1) (c := 424) (by decide) h2.2.2.2.2.2.2.2.2) (fun _ S3 q3 => ?_)
      have h3 := cl_page h2 q3 (by decide)
      have tA : TO (8 * a.toNat) (atD' Ds a, false) S3 := (cl_at h3 c).2.1
      have e : rS 471 = 436 := rfl
      have nM : ∀ j, j ≠ 424 → j ≠ 425 → ¬ shM 424 j := fun j h1 h2 z => by unfold shM at z; omega
      have ro3 : RoS 471 pg S3 := ro_fr ro q3.2.1 (nM _ (by decide) (by decide)) (nM _ (by decide) (by decide)) (by rw [e]; exact nM _ (by decide) (by decide)) (by rw [e]; exact nM _ (by decide) (by decide))
      refine ev_gc (fn_seek (d := d - 1) (c := 8 * a.toNat) (a := 471) (l := pg) (V := atD' Ds a) gA.1 (by decide) (by omega) dA.1.1.1.1 (wr_ok dA) ip.2 hpg tA.1 dA.1.1.1.2.1 ro3 h3.2.2.2.2.2.2.2.2) (fun _ S4 q4 => ?_)
      obtain ⟨s1, s2, f4, G4⟩ := q4
      have l100 := dA.2.2.1
      have h4 := cl_fnd h3 f4 (fun k z => z) ⟨s1, s2.1, fun x hx => by have := s2.2 x hx; omega⟩ G4
      refine ev_gcr (fn_cnt (d := d - 1) s1) ?_
      have nl := nodup_len _ _ s2.1 s2.2
      refine ev_gg (by first | omega | (constructor <;> omega)) ?_
      refine ev_ret ?_
      rw [if_pos ip]
      exact ⟨rfl, h4⟩
    · subst ye
      refine ev_ite (fun z => by omega) (fun _ => ?_)
      refine ev_ret ?_
      rw [if_neg ip]
      exact ⟨rfl, h2⟩
  · rw [if_neg c]
    simp only [if_neg c]
    refine ev_ite (fun z => by omega) (fun _ => ?_)
    exact ev_ret ⟨rfl, h⟩
end CSE
