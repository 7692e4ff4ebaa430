/-! THE CLASS's both -/
section BOTH
variable {S S1 : GS} {T0 : List ND} {Ds : List (List ND)} {pg pp : List Int} {r : Int} {L : List Nat} {Q : List (List Int)} {C : List (Int × Int)} {d : Nat}
theorem ap_doc {V U : List ND} (h : DOC U) : apW (V, false) U false 0 = if V.length + U.length ≤ 100 then (V ++ U, false) else (V, true) := by
  have z : nz U 0 = U.length := h.1.1.1.2.2
  have l := h.1.1.1.2.1
  have sz : szI U 0 = (U.length : Int) := by
    rw [show (0 : Int) = ((0 : Nat) : Int) from rfl, szI_c (by omega), z]
  unfold apW
  rw [sz, Int.toNat_natCast]
  by_cases c : V.length + U.length ≤ 100
  · rw [if_pos c, if_pos ⟨rfl, by omega, by show (V.length : Int) + _ ≤ 100; omega⟩]
    have e : seg U (0 : Int).toNat U.length = U := by
      unfold seg
      rw [show (0 : Int).toNat = 0 from rfl, List.drop_zero, List.take_length]
    rw [e]
  · rw [if_neg c, if_neg (fun w => c (by have : (V.length : Int) + (U.length : Int) ≤ 100 := w.2.2; omega))]
theorem ap_over {V U : List ND} {i : Int} : (apW (V, true) U false i).2 = true := by
  unfold apW
  split <;> rfl
theorem c_both {a b : Int} (h : ClS T0 Ds pg pp r L Q C S) (hd : 30 ≤ d) (ha : inr a) (hb : inr b) : Ev (fun m => f_X11_both m d 0 S [a, b]) (fun x S1 => if hasD Ds a ∧ hasD Ds b then (if Ds.length < 40 ∧ pOK (gpN (ndK 4) [atD' Ds a, atD' Ds b] 2) then x = (Ds.length : Int) ∧ ClS T0 (Ds ++ [kyT (gpN (ndK 4) [atD' Ds a, atD' Ds b] 2) []]) pg pp r L Q C S1 else x = exB + 2 ∧ ClS T0 Ds pg pp r L Q C S1) else x = exB + 3 ∧ S1 = S) := by
  have ex := ex_e
  have n4 := h.1.2.1
  have g320 : gT 320 := by decide
  refine ev_up (fun n => e_X11_both_0) ?_
  unfold b_X11_both_0
  refine ev_gg (by omega) ?_
  refine ev_gcr (cl_doc (d := d - 1) h ha) ?_
  by_cases c : hasD Ds a
  · have at_ := cl_at h c
    rw [if_pos c]
    refine ev_ite (fun _ => ?_) (fun z => by omega)
    refine ev_gcr (cl_doc (d := d - 1) h hb) ?_
    by_cases c2 : hasD Ds b
    · have bt := cl_at h c2
      have c12 : hasD Ds a ∧ hasD Ds b := ⟨c, c2⟩
      rw [if_pos c2]
      simp only [if_pos c12]
      refine ev_ite (fun _ => ?_) (fun z => by omega)
      rw [Int.toNat_natCast, Int.toNat_natCast]
      have dA : DOC (atD' Ds a) := at_.2.2
      have dB : DOC (atD' Ds b) := bt.2.2
      have tA : TO (8 * a.toNat) (atD' Ds a, false) S := at_.2.1
      have tB : TO (8 * b.toNat) (atD' Ds b, false) S := bt.2.1
      have gA := at_.1
      have gB := bt.1
      generalize atD' Ds a = A at *
      generalize atD' Ds b = B at *
      have fin : ∀ (U : List ND), DOC U → (0 : Int) + szI U 0 ≤ U.length := fun U hU => by
        have z : nz U 0 = U.length := hU.1.1.1.2.2
        have l := hU.1.1.1.2.1
        rw [show szI U 0 = (nz U 0 : Int) from szI_c (i := 0) (by omega)]
        omega
      refine ev_gc (ty_clear (d := d - 1) g320 h.2.2.2.2.2.2.2.2) (fun _ S2 q2 => ?_)
      refine ev_gc (ty_add (d := d - 1) (k := 4) g320 q2 (by decide)) (fun x S3 q3 => ?_)
      obtain ⟨rfl, q3⟩ := q3
      have q3' : TY 320 S ([ndK 4], false) S3 := q3
      have f3 := q3'.2.2.1
      have tA3 : TO (8 * a.toNat) (A, false) S3 := to_fr tA f3 (fun k h1 h2 => by unfold trM; omega)
      refine ev_gc (ty_append (d := d - 1) (f := 0) g320 gA.1 (by omega) (by omega) tA3.1 tA3.2 (by decide) (Or.inl (fin A dA)) q3') (fun x S4 q4 => ?_)
      have tB4 : TO (8 * b.toNat) (B, false) S4 := to_fr tB q4.2.2.2.1 (fun k h1 h2 => by unfold trM; omega)
      refine ev_gc (ty_append (d := d - 1) (f := 0) g320 gB.1 (by omega) (by omega) tB4.1 tB4.2 (by decide) (Or.inl (fin B dB)) q4.2) (fun y S5 q5 => ?_)
      rw [show addA (([] : List ND), false).1 = ((0 : Nat) : Int) from rfl]
      refine ev_gc (ty_close (d := d - 1) g320 (by omega) q5.2 (by decide)) (fun _ S6 q6 => ?_)
      have h6 := cl_fr h q6.2.2.1 (fun k z => by unfold trM at z; unfold wkM; omega) q6.2.2.2
      have t6 := to_ty q6
      generalize hW : clo (apW (apW ([ndK 4], false) A false 0) B false 0) ((0 : Nat) : Int) = W at t6
      have lg : (gpN (ndK 4) [A, B] 2).length = 1 + A.length + B.length := by
        rw [gp_len]
        simp only [List.flatten_cons, List.flatten_nil, List.length_append, List.length_nil]
        omega
      have key : (W = (gpN (ndK 4) [A, B] 2, false) ∧ (gpN (ndK 4) [A, B] 2).length ≤ 100) ∨ (W.2 = true ∧ ¬ (gpN (ndK 4) [A, B] 2).length ≤ 100) := by
        rw [← hW, lg, ap_doc dA]
        by_cases y1 : ([ndK 4] : List ND).length + A.length ≤ 100
        · rw [if_pos y1, ap_doc dB]
          have l1 : ([ndK 4] ++ A).length = 1 + A.length := by rw [List.length_append]; rfl
          by_cases y2 : ([ndK 4] ++ A).length + B.length ≤ 100
          · rw [if_pos y2]
            left
            refine ⟨?_, by omega⟩
            have e : ([ndK 4] ++ A ++ B : List ND) = [] ++ ndK 4 :: (A ++ B) := by simp
            rw [e, show ((0 : Nat) : Int) = (([] : List ND).length : Int) from rfl, clo_y]
            have g : gpN (ndK 4) [A, B] 2 = wZ (ndK 4) (1 + (A ++ B).length) :: (A ++ B) := by
              unfold gpN
              simp
            rw [g]
            rfl
          · rw [if_neg y2]
            right
            refine ⟨by rw [clo_2], by omega⟩
        · rw [if_neg y1]
          right
          refine ⟨by rw [clo_2]; exact ap_over, ?_⟩
          have : ([ndK 4] : List ND).length = 1 := rfl
          omega
      rcases key with ⟨k1, k2⟩ | ⟨k1, k2⟩
      · rw [k1] at t6
        have sk : SDC (gpN (ndK 4) [A, B] 2) := sdc_gp (x := ndK 4) (E := [A, B]) (by show (4 : Int) ≤ 4; decide) ⟨nr_ndK (by decide), Or.inr (Or.inr (Or.inr (Or.inr ⟨by show (4 : Int) ≤ 4; decide, rfl, rfl⟩)))⟩ (fun t ht => by
          rcases List.mem_cons.mp ht with z | z
          · exact z ▸ dA.1
          · simp only [List.mem_cons, List.not_mem_nil, or_false] at z
            exact z ▸ dB.1) (fun z => by have : (4 : Int) = 5 := z; omega) (fun _ t ht => by
          rcases List.mem_cons.mp ht with z | z
          · exact z ▸ dA.2.2.2
          · simp only [List.mem_cons, List.not_mem_nil, or_false] at z
            exact z ▸ dB.2.2.2) (by
          simp only [List.flatten_cons, List.flatten_nil, List.length_append, List.length_nil]
          omega)
        refine ev_gc (cl_admitD (d := d - 1) g320 (by decide) (by omega) h6 t6 sk k2) (fun x S7 q7 => ?_)
        by_cases cc : Ds.length < 40 ∧ pOK (gpN (ndK 4) [A, B] 2)
        · rw [if_pos cc] at q7
          obtain ⟨rfl, q7⟩ := q7
          refine ev_ite (fun _ => ?_) (fun z => by omega)
          refine ev_gg (by omega) ?_
          refine ev_ret ?_
          rw [if_pos cc]
          exact ⟨rfl, q7⟩
        · rw [if_neg cc] at q7
          obtain ⟨rfl, rfl⟩ := q7
          refine ev_ite (fun z => by omega) (fun _ => ?_)
          refine ev_ret ?_
          rw [if_neg cc]
          exact ⟨rfl, h6⟩
      · have no : ¬ dOK W := fun z => by rw [z.1] at k1; cases k1
        refine ev_gc (cl_admit (d := d - 1) g320 (by decide) (by omega) h6 t6 (fun z => by rw [k1] at z; cases z) (fun z => absurd z no)) (fun x S7 q7 => ?_)
        rcases q7 with ⟨-, z, -⟩ | ⟨-, rfl, rfl⟩
        · exact absurd z no
        refine ev_ite (fun z => by omega) (fun _ => ?_)
        refine ev_ret ?_
        rw [if_neg (fun z => k2 z.2.1)]
        exact ⟨rfl, h6⟩
    · rw [if_neg c2]
      refine ev_ite (fun z => by omega) (fun _ => ?_)
      refine ev_ret ?_
      rw [if_neg (fun z => c2 z.2)]
      exact ⟨rfl, rfl⟩
  · rw [if_neg c]
    refine ev_ite (fun z => by omega) (fun _ => ?_)
    refine ev_ret ?_
    rw [if_neg (fun z => c z.1)]
    exact ⟨rfl, rfl⟩
end BOTH
