/-! THE CLASS's tell -/
theorem ptF_len {S : GS} {c : Nat} {V : List ND} (hv : TV S c V) (i : Nat) : ∀ (f p : Nat), p + f ≤ V.length → (ptF V i f p).length ≤ 25 * f
  | 0, p, _ => Nat.zero_le _
  | f + 1, p, h => by
    have e : ptF V i (f + 1) p = (if i < p + nz V p then stp V p else []) ++ ptF V i f (p + 1) := rfl
    rw [e, List.length_append]
    have i1 := ptF_len hv i f (p + 1) (by omega)
    have i2 : (if i < p + nz V p then stp V p else []).length ≤ 25 := by
      split
      · exact stp_len hv p (by omega)
      · exact Nat.zero_le _
    omega
section CTE
variable {S S1 : GS} {T0 : List ND} {Ds : List (List ND)} {pg pp : List Int} {r : Int} {L : List Nat} {Q : List (List Int)} {C : List (Int × Int)} {d : Nat}
theorem t_canTell {c : Nat} {V : List ND} {i : Nat} {w : Int} (hc : gT c) (hd : 3 ≤ d) (hv : TV S c V) (hV : TR V ∧ PZL V) (hi : i < V.length) (hl : V.length ≤ 100) (hw : 0 ≤ w ∧ w ≤ 3) : Rd (fun m => f_X11_canTell m d 0 S [((c : Nat) : Int), (i : Int), w]) (if tlO V i w then 1 else 0) S := by
  have ii : inr (i : Int) := by constructor <;> omega
  have is1 : ∀ k : Int, isI V (i : Int) k = if nk V i = k then 1 else 0 := fun k => by
    unfold isI
    rw [Int.toNat_natCast]
    by_cases z : nk V i = k
    · rw [if_pos ⟨⟨by omega, by omega⟩, z⟩, if_pos z]
    · rw [if_neg (fun y => z y.2), if_neg z]
  have b01 : ∀ p : Prop, [Decidable p] → ((if p then 1 else 0 : Int) = 0 ∨ (if p then 1 else 0 : Int) = 1) := fun p _ => by
    split
    · exact Or.inr rfl
    · exact Or.inl rfl
  refine ev_up (fun n => e_X11_canTell_0) ?_
  unfold b_X11_canTell_0
  refine ev_gg (by first | omega | (constructor <;> omega)) ?_
  refine ev_ite (fun z => ?_) (fun z => ?_)
  · refine ev_gg (by first | omega | (constructor <;> omega)) ?_
    refine ev_gg (hc) ?_
    refine ev_gcr (t_is (d := d - 1) hc hv ii (by decide)) ?_
    rw [is1]
    refine ev_gg ((b01 _)) ?_
    refine ev_ret ⟨?_, rfl⟩
    by_cases c : nk V i = 3
    · rw [if_pos c, if_pos (show tlO V i w from Or.inr (Or.inl ⟨z, c⟩))]
    · rw [if_neg c, if_neg (show ¬ tlO V i w from fun y => by rcases y with y | y | y | y <;> omega)]
  refine ev_ite (fun z2 => ?_) (fun z2 => ?_)
  · refine ev_gg (by first | omega | (constructor <;> omega)) ?_
    refine ev_gg (hc) ?_
    refine ev_gcr (t_is (d := d - 1) hc hv ii (by decide)) ?_
    rw [is1]
    refine ev_gg ((b01 _)) ?_
    refine ev_ret ⟨?_, rfl⟩
    by_cases c : nk V i = 2
    · rw [if_pos c, if_pos (show tlO V i w from Or.inr (Or.inr (Or.inl ⟨z2, c⟩)))]
    · rw [if_neg c, if_neg (show ¬ tlO V i w from fun y => by rcases y with y | y | y | y <;> omega)]
  refine ev_ite (fun z3 => ?_) (fun z3 => ?_)
  · refine ev_gg (by first | omega | (constructor <;> omega)) ?_
    refine ev_gg (hc) ?_
    refine ev_gcr (t_ownerOf (d := d - 1) hc hv (by omega) hi) ?_
    have orr := ow_r V i i
    have orr' : owI V i < i ∧ -1 ≤ owI V i := orr
    refine ev_gcr (t_is (d := d - 1) hc hv (by constructor <;> omega) (by decide)) ?_
    have e : isI V (owI V i) 5 = if 1 ≤ i ∧ nk V (owI V i).toNat = 5 then 1 else 0 := by
      unfold isI
      by_cases i1 : 1 ≤ i
      · obtain ⟨o, e1, e2, _⟩ := own_kid hV i1 hi
        by_cases k5 : nk V (owI V i).toNat = 5
        · rw [if_pos ⟨⟨by omega, by omega⟩, k5⟩, if_pos ⟨i1, k5⟩]
        · rw [if_neg (fun y => k5 y.2), if_neg (fun y => k5 y.2)]
      · rw [if_neg (fun y => by omega), if_neg (fun y => i1 y.1)]
    rw [e]
    refine ev_gg ((b01 _)) ?_
    refine ev_ret ⟨?_, rfl⟩
    by_cases c : 1 ≤ i ∧ nk V (owI V i).toNat = 5
    · rw [if_pos c, if_pos (show tlO V i w from Or.inr (Or.inr (Or.inr ⟨z3, c⟩)))]
    · rw [if_neg c, if_neg (show ¬ tlO V i w from fun y => by
        rcases y with y | y | y | y
        · omega
        · omega
        · omega
        · exact c y.2)]
  · refine ev_ret ⟨?_, rfl⟩
    rw [if_pos (show tlO V i w from Or.inl (by omega))]
theorem c_tell {a i w : Int} (h : ClS T0 Ds pg pp r L Q C S) (hd : 30 ≤ d) (ha : inr a) (hi : inr i) (hw : inr w) : Ev (fun m => f_X11_tell m d 0 S [a, i, w]) (fun x S1 => if hasD Ds a ∧ 0 ≤ i ∧ i < ((atD' Ds a).length : Int) then (if 0 ≤ w ∧ w ≤ 3 then (if tlO (atD' Ds a) i.toNat w then x = ((tlT (atD' Ds a) i.toNat w).length : Int) ∧ ClS T0 Ds pg (tlT (atD' Ds a) i.toNat w) r L Q C S1 else x = exB + 2 ∧ ClS T0 Ds pg pp r L Q C S1) else x = exB + 1 ∧ ClS T0 Ds pg pp r L Q C S1) else x = exB + 3 ∧ ClS T0 Ds pg pp r L Q C S1) := by
  have ex := ex_e
  have n4 := h.1.2.1
  have g26 : gSh 426 := by decide
  have rm : g_room (426 + 1) = 36000 := rfl
  refine ev_up (fun n => e_X11_tell_0) ?_
  unfold b_X11_tell_0
  refine ev_gg (by first | omega | (constructor <;> omega)) ?_
  refine ev_gcr (c_docWith (d := d - 1) h (by omega) ha hi) ?_
  by_cases c : hasD Ds a ∧ 0 ≤ i ∧ i < ((atD' Ds a).length : Int)
  · have at_ := cl_at h c.1
    simp only [if_pos c]
    refine ev_ite (fun _ => ?_) (fun z => by omega)
    rw [Int.toNat_natCast]
    obtain ⟨i, rfl⟩ : ∃ j : Nat, i = (j : Int) := ⟨i.toNat, by omega⟩
    have dA : DOC (atD' Ds a) := at_.2.2
    have tA : TO (8 * a.toNat) (atD' Ds a, false) S := at_.2.1
    have gA := at_.1
    rw [Int.toNat_natCast]
    have il : i < (atD' Ds a).length := by omega
    generalize atD' Ds a = A at *
    have l100 := dA.2.2.1
    refine ev_gg (by first | omega | (constructor <;> omega)) ?_
    refine ev_ite (fun z => ?_) (fun z => ?_)
    · simp only [if_neg (show ¬ (0 ≤ w ∧ w ≤ 3) by omega)]
      exact ev_ret ⟨rfl, h⟩
    refine ev_ite (fun z2 => ?_) (fun z2 => ?_)
    · simp only [if_pos (show 0 ≤ w ∧ w ≤ 3 by omega)]
      refine ev_gcr (t_canTell (d := d - 1) gA.1 (by omega) tA.1 dA.1.1 il l100 (by omega)) ?_
      by_cases ct : tlO A i w
      · rw [if_pos ct]
        simp only [if_pos ct]
        refine ev_gg (by decide) ?_
        refine ev_ite (fun _ => ?_) (fun y => absurd (by decide) y)
        refine ev_gc (sx_clear (d := d - 1) g26 h.2.2.2.2.2.2.2.2) (fun _ S2 q2 => ?_)
        have nM : ∀ j, j ≠ 426 → j ≠ 427 → ¬ shM 426 j := fun j h1 h2 z => by unfold shM at z; omega
        have tA2 : TO (8 * a.toNat) (A, false) S2 := to_fr tA q2.2.1 (fun k h1 h2 => nM _ (by omega) (by omega))
        have s2 := sx_rf q2.2.2 q2.1
        have fin : ∀ (S3 : GS) (l : List Int), SX 426 S2 l S3 → l = tlT A i w → l.length ≤ 36000 → Ev (fun n => gc (f_X9_length n (d - 1) 0 S3 [((426 : Nat) : Int)]) fun x S_4 => gg (x < exB) <| some (x, S_4)) (fun x S1 => x = ((tlT A i w).length : Int) ∧ ClS T0 Ds pg (tlT A i w) r L Q C S1) := by
          intro S3 l q3 el hl
          refine ev_gcr (s9_length (d := d - 1) g26 q3.1) ?_
          refine ev_gg (by first | omega | (constructor <;> omega)) ?_
          have h3 := cl_paper h (⟨q3.1, fr_tr q2.2.1 q3.2.1, q3.2.2⟩ : SX 426 S l S3)
          rw [el] at h3 ⊢
          exact ev_ret ⟨rfl, h3⟩
        refine ev_ite (fun z3 => ?_) (fun z3 => ?_)
        · refine ev_ite (fun z4 => ?_) (fun z4 => ?_)
          · have w3 : w = 3 := by omega
            have tv2 : TV S2 (8 * a.toNat) A := tA2.1
            have pl : (pth A i).length ≤ 25 * i := ptF_len tv2 i i 1 (by omega)
            refine ev_gg (gA.1) ?_
            refine ev_gc (t_pathTo (V := A) (d := d - 1) gA.1 g26 (by omega) tv2 dA.1.1.1.1 il s2 (by rw [rm, List.length_nil]; omega)) (fun _ S3 q3 => ?_)
            rw [List.nil_append] at q3
            exact fin S3 _ q3 (by unfold tlT; rw [if_pos w3]) (by omega)
          · have w2 : w = 2 := by omega
            have nr := (dA.1.2.1 _ (nd_mem il)).1
            have ek : kI A (i : Int) = nq A i := by rw [kI_n (by omega), Int.toNat_natCast]
            have kl : (nq A i).length ≤ 12 := nr.2.2.2.2.2.2.2.2.1
            refine ev_gg (gA.1) ?_
            refine ev_gc (t_keyTo (d := d - 1) gA.1 g26 (by omega) tA2.1 (by constructor <;> omega) s2 (by rw [rm, List.length_nil, ek]; omega)) (fun _ S3 q3 => ?_)
            rw [List.nil_append, ek] at q3
            exact fin S3 _ q3 (by unfold tlT; rw [if_neg (by omega), if_pos w2]) (by omega)
        · have nr := (dA.1.2.1 _ (nd_mem il)).1
          have et : tI A (i : Int) = nt A i := tI_n il
          have kl : (nt A i).length ≤ 40 := nr.2.2.2.2.2.2.1
          refine ev_gg (gA.1) ?_
          refine ev_gc (t_signsTo (d := d - 1) gA.1 g26 (by omega) tA2.1 (by constructor <;> omega) s2 (by rw [rm, List.length_nil, et]; omega)) (fun _ S3 q3 => ?_)
          rw [List.nil_append, et] at q3
          exact fin S3 _ q3 (by unfold tlT; rw [if_neg (by omega), if_neg (by omega)]) (by omega)
      · rw [if_neg ct]
        simp only [if_neg ct]
        refine ev_gg (by decide) ?_
        refine ev_ite (fun y => absurd y (by decide)) (fun _ => ?_)
        exact ev_ret ⟨rfl, h⟩
    · simp only [if_neg (show ¬ (0 ≤ w ∧ w ≤ 3) by omega)]
      exact ev_ret ⟨rfl, h⟩
  · simp only [if_neg c]
    refine ev_ite (fun z => by omega) (fun _ => ?_)
    exact ev_ret ⟨rfl, h⟩
end CTE
