/-! THE CLASS's calls that make DOCUMENTS: take, standard -/
section MKD
variable {S S1 : GS} {T0 : List ND} {Ds : List (List ND)} {pg pp : List Int} {r : Int} {L : List Nat} {Q : List (List Int)} {C : List (Int × Int)} {d : Nat}
theorem doc_ky {T : List ND} (h : SDC T) (hp : pOK T) : DOC (kyT T []) := by
  refine ⟨sdc_ky h (fun x hx => by cases hx) (by decide), fun g => ?_, ?_, rfl⟩
  · rw [dp_ky]
    exact dp_all 13 T 12 hp.2 (by decide) g
  · rw [ky_len h.1.1.2.1]
    exact hp.1
/-- a sound piece is taken in, if there is room and it is not too deep -/
theorem cl_admitD {c : Nat} {T : List ND} (hc : gT c) (hc2 : 320 ≤ c) (hd : 18 ≤ d) (h : ClS T0 Ds pg pp r L Q C S) (hW : TO c (T, false) S) (hT : SDC T) (hl : T.length ≤ 100) : Ev (fun m => f_X11_admit m d 0 S [((c : Nat) : Int)]) (fun x S1 => if Ds.length < 40 ∧ pOK T then x = (Ds.length : Int) ∧ ClS T0 (Ds ++ [kyT T []]) pg pp r L Q C S1 else x = exB + 2 ∧ S1 = S) := by
  have dp := dOK_p hT.1 hl
  refine ev_mono (cl_admit hc hc2 hd h hW (fun _ _ => hT.1.1.1) (fun z => doc_ky hT (dp.mp z))) (fun x S1 q => ?_)
  rcases q with ⟨a1, a2, a3, a4⟩ | ⟨a1, a2, a3⟩
  · rw [if_pos ⟨a1, dp.mp a2⟩]
    exact ⟨a3, a4⟩
  · rw [if_neg (fun z => a1 ⟨z.1, dp.mpr z.2⟩)]
    exact ⟨a2, a3⟩
theorem c_take {a i : Int} (h : ClS T0 Ds pg pp r L Q C S) (hd : 30 ≤ d) (ha : inr a) (hi : inr i) : Ev (fun m => f_X11_take m d 0 S [a, i]) (fun x S1 => if hasD Ds a ∧ 0 ≤ i ∧ i < ((atD' Ds a).length : Int) then (if Ds.length < 40 then x = (Ds.length : Int) ∧ ClS T0 (Ds ++ [kyT (sg (atD' Ds a) i.toNat) []]) pg pp r L Q C S1 else x = exB + 2 ∧ ClS T0 Ds pg pp r L Q C S1) else x = exB + 3 ∧ S1 = S) := by
  have ex := ex_e
  have n4 := h.1.2.1
  have g320 : gT 320 := by decide
  refine ev_up (fun n => e_X11_take_0) ?_
  unfold b_X11_take_0
  refine ev_gg (by omega) ?_
  refine ev_gcr (c_docWith (d := d - 1) h (by omega) ha hi) ?_
  by_cases c : hasD Ds a ∧ 0 ≤ i ∧ i < ((atD' Ds a).length : Int)
  · have at_ := cl_at h c.1
    simp only [if_pos c]
    refine ev_ite (fun _ => ?_) (fun z => by omega)
    rw [Int.toNat_natCast]
    have dV : DOC (atD' Ds a) := at_.2.2
    have wV : WF (atD' Ds a) := dV.1.1.1.1
    obtain ⟨i, rfl⟩ : ∃ k : Nat, i = (k : Int) := ⟨i.toNat, by omega⟩
    have il : i < (atD' Ds a).length := by omega
    have wi := wV.1 i il
    have zi := (pz_l dV.1.1.2) i
    have sz : szI (atD' Ds a) (i : Int) = (nz (atD' Ds a) i : Int) := szI_c il
    have ds := doc_sg dV il
    have co := ty_copyOf (S := S) (c := 320) (c2 := 8 * a.toNat) (U := atD' Ds a) (o := false) (f := (i : Int)) (d := d - 1) g320 at_.1.1 (by omega) (by omega) at_.2.1.1 at_.2.1.2 hi (Or.inl (by omega)) h.2.2.2.2.2.2.2.2
    have ec : cpW (atD' Ds a) false (i : Int) = (kyT (sg (atD' Ds a) i) [], false) := by
      have ls : (seg (atD' Ds a) i (nz (atD' Ds a) i)).length = nz (atD' Ds a) i := seg_len wi
      have e1 : apW ([], false) (atD' Ds a) false (i : Int) = (sg (atD' Ds a) i, false) := by
        unfold apW
        rw [sz, Int.toNat_natCast, Int.toNat_natCast, if_pos ⟨rfl, by omega, by have := ds.2.2; rw [sg_len wV il] at this; simp only [List.length_nil]; omega⟩]
        rfl
      unfold cpW
      rw [e1]
      unfold cKy
      have l0 : (sg (atD' Ds a) i).length = nz (atD' Ds a) i := sg_len wV il
      rw [if_pos (by show (0 : Int) ≤ 0 ∧ (0 : Int) < ((sg (atD' Ds a) i).length : Int); omega)]
      show ((sg (atD' Ds a) i).set (0 : Int).toNat (wQ ((sg (atD' Ds a) i).getD (0 : Int).toNat nd0) []), false) = _
      rw [show (0 : Int).toNat = 0 from rfl, ky_eq (by omega)]
    rw [ec] at co
    refine ev_gc co (fun _ S2 q2 => ?_)
    have h2 := cl_fr h q2.2.2.1 (fun k z => by unfold trM at z; unfold wkM; omega) q2.2.2.2
    have sk : SDC (kyT (sg (atD' Ds a) i) []) := sdc_ky ds.1 (fun x hx => by cases hx) (by decide)
    have lk : (kyT (sg (atD' Ds a) i) []).length ≤ 100 := by rw [ky_len ds.1.1.1.2.1]; exact ds.2.2
    have pk : pOK (kyT (sg (atD' Ds a) i) []) := ⟨lk, by rw [dp_ky]; exact ds.2.1 13⟩
    refine ev_gc (cl_admitD (d := d - 1) g320 (by decide) (by omega) h2 (to_ty q2) sk lk) (fun x S3 q3 => ?_)
    by_cases c4 : Ds.length < 40
    · rw [if_pos ⟨c4, pk⟩] at q3
      obtain ⟨rfl, q3⟩ := q3
      refine ev_ite (fun _ => ?_) (fun z => by omega)
      refine ev_gg (by omega) ?_
      refine ev_ret ?_
      rw [if_pos c4]
      refine ⟨rfl, ?_⟩
      rw [Int.toNat_natCast]
      exact q3
    · rw [if_neg (fun z => c4 z.1)] at q3
      obtain ⟨rfl, rfl⟩ := q3
      refine ev_ite (fun z => by omega) (fun _ => ?_)
      refine ev_ret ?_
      rw [if_neg c4]
      exact ⟨rfl, h2⟩
  · simp only [if_neg c]
    refine ev_ite (fun z => by omega) (fun _ => ?_)
    exact ev_ret ⟨rfl, rfl⟩
theorem c_standard (h : ClS T0 Ds pg pp r L Q C S) (hd : 30 ≤ d) (hT : DOC T0) : Ev (fun m => f_X11_standard m d 0 S []) (fun x S1 => if Ds.length < 40 then x = (Ds.length : Int) ∧ ClS T0 (Ds ++ [kyT T0 []]) pg pp r L Q C S1 else x = exB + 2 ∧ S1 = S) := by
  have ex := ex_e
  have n4 := h.1.2.1
  have pk : pOK T0 := ⟨hT.2.2.1, hT.2.1 13⟩
  refine ev_up (fun n => e_X11_standard_0) ?_
  unfold b_X11_standard_0
  refine ev_gg (by omega) ?_
  refine ev_gc (cl_admitD (d := d - 1) (c := 328) (by decide) (by decide) (by omega) h h.2.2.2.2.2.2.2.1 hT.1 hT.2.2.1) (fun x S3 q3 => ?_)
  by_cases c4 : Ds.length < 40
  · rw [if_pos ⟨c4, pk⟩] at q3
    obtain ⟨rfl, q3⟩ := q3
    refine ev_ite (fun _ => ?_) (fun z => by omega)
    refine ev_gg (by omega) ?_
    refine ev_ret ?_
    rw [if_pos c4]
    exact ⟨rfl, q3⟩
  · rw [if_neg (fun z => c4 z.1)] at q3
    obtain ⟨rfl, rfl⟩ := q3
    refine ev_ite (fun z => by omega) (fun _ => ?_)
    refine ev_ret ?_
    rw [if_neg c4]
    exact ⟨rfl, rfl⟩
end MKD
