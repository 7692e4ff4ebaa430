/-! THE REFERENCE's constructor -/
def stdR : List Int := (List.range 648).map (fun i => (gl_standard.getD (i / 8) 0).toInt / ((2 ^ (8 * (7 - i % 8)) : Nat) : Int) % 256)
set_option maxRecDepth 100000 in
theorem stdR_rd0 : isRd (rdA 0 stdR) = true := by decide +kernel
theorem stdR_rd : rdA 0 stdR = .inr stT := isRd_ok stdR_rd0
theorem stdR_rng : ∀ x ∈ stdR, 0 ≤ x ∧ x < 256 := by decide +kernel
theorem stdR_in : ∀ a, a < 81 → inl (gl_standard.getD a 0).toInt := by decide +kernel
theorem stdR_len : stdR.length = 648 := by
  unfold stdR
  rw [List.length_map, List.length_range]
theorem stdR_at {i : Nat} (h : i < 648) : stdR.getD i 0 = (gl_standard.getD (i / 8) 0).toInt / ((2 ^ (8 * (7 - i % 8)) : Nat) : Int) % 256 := by
  unfold stdR
  rw [List.getD_eq_getElem?_getD, List.getElem?_map, List.getElem?_range h]
  rfl
section INR
variable {S0 : GS} {d : Nat}
theorem gz_hi {S : GS} {c k : Nat} (h : 495 ≤ c) : (gz S).1 c k = 0 := by
  show (if c < 495 then S.1 c else fun _ => 0) k = 0
  rw [if_neg (by omega)]
theorem gz_lo {S : GS} {c : Nat} (h : c < 495) : (gz S).1 c = S.1 c ∧ (gz S).2.1 c = S.2.1 c ∧ (gz S).2.2 c = S.2.2 c := by
  unfold gz
  refine ⟨?_, ?_, ?_⟩
  · show (if c < 495 then S.1 c else fun _ => 0) = _
    rw [if_pos h]
  · show (if c < 495 then S.2.1 c else fun _ => false) = _
    rw [if_pos h]
  · show (if c < 495 then S.2.2 c else fun _ => 0) = _
    rw [if_pos h]
abbrev inP : Nat → Nat → Prop := fun c j => rtP c j ∨ (c = 500 ∧ j = 15) ∨ c = 508 ∨ (c = 501 ∧ 277245 ≤ j) ∨ (c = 502 ∧ j = 45)
abbrev in0P : Nat → Nat → Prop := fun c j => (c = 500 ∧ j = 15) ∨ c = 508
theorem in_hi {c j : Nat} (z : inP c j) : 500 ≤ c := by
  rcases z with z | z | z | z | z
  · rcases z with z | z | z
    · unfold rsP at z
      rcases z with z | z | z | z | z | z <;> omega
    · rcases z with z | z | z <;> omega
    · omega
  · omega
  · omega
  · omega
  · omega
set_option maxRecDepth 100000 in
theorem q_init {B : GS} (hB : ∀ c k, 495 ≤ c → B.1 c k = 0) : Ev (fun n => f_X12_init n 2035 1201 B []) (fun _ S1 => RfS B stT [] [] [] 0 [] [] [] S1) := by
  have lR := stdR_len
  -- the text is there
  have fin : ∀ S1 : GS, S1.1 500 15 = 648 → (∀ i, i < 648 → S1.1 508 i = stdR.getD i 0) → FC in0P B S1 → Ev (fun n => f_X12_init n 2035 1208 S1 [81]) (fun _ S1 => RfS B stT [] [] [] 0 [] [] [] S1) := by
    intro S1 h15 h508 f1
    refine ev_up (fun n => e_X12_init_1208) ?_
    unfold b_X12_init_1208
    refine ev_gg (by decide) ?_
    refine ev_ite (fun _ => ?_) (fun z => by omega)
    refine ev_gg (by decide) ?_
    have e22 : S1.1 500 22 = 0 := (fc_i f1 (by omega)).trans (hB _ _ (by decide))
    refine ev_gc (q_reads (d := 2035 - 1) (how := 0) (t := stdR) (by decide) (by decide) ⟨by rw [lR]; exact h15, ⟨by rw [lR]; decide, stdR_rng⟩, fun i hi => h508 i (by omega)⟩ (by rw [e22]; decide)) (fun x S2 q2 => ?_)
    obtain ⟨q2, i22, f2⟩ := q2
    rw [stdR_rd] at q2
    obtain ⟨_, l2⟩ := q2
    have l2' : LK S2 40 stT := by
      have : LK S2 40 (kyT (nrH false 13 stT) []) := l2
      rw [std_nr] at this
      have e : kyT stT [] = stT := doc_k std_doc
      rw [e] at this
      exact this
    have ll := l2'.1
    have l100 := l2'.2.1
    refine ev_gc (q_becomes (d := 2035 - 1) (k := 45) (f := 40) (K := 45) (F := 40) (m := stT.length) (by decide) rfl (by decide) rfl (by decide) (by decide) ll (by omega)) (fun _ S3 q3 => ?_)
    obtain ⟨a3, b3, f3⟩ := q3
    have l3 : LK S3 45 stT := lk_cp l2' a3 b3
    have f03 : FC inP B S3 := fc_tr (fc_mono f1 (fun c j z => z.elim (fun y => Or.inr (Or.inl y)) (fun y => Or.inr (Or.inr (Or.inl y))))) (fc_tr (fc_mono f2 (fun c j z => Or.inl z)) (fc_mono f3 (fun c j z => by
      rcases z with z | z
      · exact Or.inr (Or.inr (Or.inr (Or.inl ⟨z.1, by omega⟩)))
      · exact Or.inr (Or.inr (Or.inr (Or.inr z))))))
    have z0 : ∀ j, (j = 1 ∨ j = 2 ∨ j = 7 ∨ j = 9 ∨ j = 32 ∨ j = 54 ∨ j = 81) → S3.1 500 j = 0 := fun j hj => by
      refine (fc_i f03 (fun z => ?_)).trans (hB _ _ (by decide))
      rcases z with z | z | z | z | z
      · rcases z with z | z | z
        · unfold rsP at z
          rcases z with z | z | z | z | z | z <;> omega
        · rcases z with z | z | z <;> omega
        · omega
      · omega
      · omega
      · omega
      · omega
    have i22' : inr (S3.1 500 22) := by
      rw [fc_i f3 (by omega)]
      exact i22
    refine ev_ret ⟨⟨z0 1 (by omega), by decide, fun i hi => absurd hi (Nat.not_lt_zero i)⟩, ⟨z0 7 (by omega), by decide, (fun i hi => absurd hi (Nat.not_lt_zero i)), fun x hx => by cases hx⟩, ⟨z0 9 (by omega), by decide, (fun i hi => absurd hi (Nat.not_lt_zero i)), fun x hx => by cases hx⟩, ⟨z0 2 (by omega), by decide, by decide⟩, ⟨z0 32 (by omega), by decide, (fun i hi => absurd hi (Nat.not_lt_zero i)), fun x hx => by cases hx⟩, ⟨z0 54 (by omega), by decide, (fun q hq => by cases hq), (fun k _ h0 => absurd h0 (Nat.not_lt_zero _)), fun j hj => absurd hj (Nat.not_lt_zero j)⟩, ⟨z0 81 (by omega), by decide, (fun k hk => absurd hk (Nat.not_lt_zero k)), i22'⟩, ⟨l3, std_doc⟩, fc_mono f03 (fun c j z => in_hi z)⟩
  have lp2 : ∀ (a : Nat), a < 81 → (∀ S2 : GS, S2.1 500 15 = ((8 * (a + 1) : Nat) : Int) → (∀ i, i < 8 * (a + 1) → S2.1 508 i = stdR.getD i 0) → FC in0P B S2 → Ev (fun n => f_X12_init n 2035 1208 S2 [((a + 1 : Nat) : Int)]) (fun _ S1 => RfS B stT [] [] [] 0 [] [] [] S1)) → ∀ (u : Nat) (S1 : GS), u ≤ 8 → S1.1 500 15 = ((8 * a + (8 - u) : Nat) : Int) → (∀ i, i < 8 * a + (8 - u) → S1.1 508 i = stdR.getD i 0) → FC in0P B S1 → Ev (fun n => f_X12_init n 2035 1217 S1 [(a : Int), (u : Int) - 1]) (fun _ S1 => RfS B stT [] [] [] 0 [] [] [] S1) := by
    intro a ha nx u
    induction u with
    | zero =>
      intro S1 hu h15 h508 f1
      refine ev_up (fun n => e_X12_init_1217) ?_
      unfold b_X12_init_1217
      refine ev_gg (by decide) ?_
      refine ev_ite (fun _ => ?_) (fun z => by omega)
      refine ev_gv ?_
      rw [show (a : Int) + 1 = ((a + 1 : Nat) : Int) by omega]
      exact nx S1 (by rw [h15]; omega) (fun i hi => h508 i (by omega)) f1
    | succ u ih =>
      intro S1 hu h15 h508 f1
      refine ev_up (fun n => e_X12_init_1217) ?_
      unfold b_X12_init_1217
      rw [show ((u + 1 : Nat) : Int) - 1 = (u : Int) by omega]
      refine ev_gg (by first | omega | (constructor <;> omega)) ?_
      refine ev_ite (fun z => by omega) (fun _ => ?_)
      refine ev_gv ?_
      rw [h15]
      refine ev_gg (by first | omega | (constructor <;> omega)) ?_
      refine ev_gv ?_
      rw [Int.toNat_natCast]
      refine ev_gv ?_
      refine ev_gg (by first | omega | (constructor <;> omega)) ?_
      refine ev_gg (stdR_in a ha) ?_
      refine ev_gv ?_
      refine ev_gv ?_
      refine ev_gg (by first | omega | (constructor <;> omega)) ?_
      refine ev_gv ?_
      refine ev_gv ?_
      rw [Int.toNat_natCast, gI_c (show (500 : Nat) ≠ 508 by decide), h15]
      refine ev_gv ?_
      refine ev_gv ?_
      refine ev_gv ?_
      rw [show (u : Int) + (-1) = (u : Int) - 1 by omega]
      have e8 : (8 * (u : Int)).toNat = 8 * u := by omega
      rw [e8]
      have f2 : FC in0P S1 (gI (gI S1 508 (8 * a + (8 - (u + 1))) ((gl_standard.getD a 0).toInt / ((2 ^ (8 * u) : Nat) : Int) % 256)) 500 15 (((8 * a + (8 - (u + 1)) : Nat) : Int) + 1)) := fc_tr (fc_gI (Or.inr rfl)) (fc_gI (Or.inl ⟨rfl, rfl⟩))
      refine ih _ (by omega) (by rw [gI_a]; omega) (fun i hi => ?_) (fc_tr f1 f2)
      rw [gI_c (show (508 : Nat) ≠ 500 by decide)]
      by_cases c : i = 8 * a + (8 - (u + 1))
      · rw [c, gI_a, stdR_at (by omega)]
        have e1 : (8 * a + (8 - (u + 1))) / 8 = a := by omega
        have e2 : 7 - (8 * a + (8 - (u + 1))) % 8 = u := by omega
        rw [e1, e2]
      · rw [gI_k c]
        exact h508 i (by omega)
  have lp1 : ∀ (v a : Nat) (S1 : GS), a + v = 81 → S1.1 500 15 = ((8 * a : Nat) : Int) → (∀ i, i < 8 * a → S1.1 508 i = stdR.getD i 0) → FC in0P B S1 → Ev (fun n => f_X12_init n 2035 1208 S1 [(a : Int)]) (fun _ S1 => RfS B stT [] [] [] 0 [] [] [] S1) := by
    intro v
    induction v with
    | zero =>
      intro a S1 hav h15 h508 f1
      have e : a = 81 := by omega
      subst e
      exact fin S1 h15 h508 f1
    | succ v ih =>
      intro a S1 hav h15 h508 f1
      refine ev_up (fun n => e_X12_init_1208) ?_
      unfold b_X12_init_1208
      refine ev_gg (by first | omega | (constructor <;> omega)) ?_
      refine ev_ite (fun z => by omega) (fun _ => ?_)
      exact lp2 a (by omega) (fun S2 a2 b2 c2 => ih (a + 1) S2 (by omega) a2 b2 c2) 8 S1 (Nat.le_refl 8) (by rw [h15]; omega) (fun i hi => h508 i (by omega)) f1
  refine ev_up (fun n => e_X12_init_1201) ?_
  unfold b_X12_init_1201
  refine ev_gv ?_
  exact lp1 81 0 _ rfl gI_a (fun i hi => absurd hi (Nat.not_lt_zero i)) (fc_gI (Or.inl ⟨rfl, rfl⟩))
end INR
