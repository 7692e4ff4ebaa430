/-! p37: what stands on THE PAPER, typed -/
section XTY
variable {S : GS} {Ds : List (List ND)} {pg pp : List Int} {L : List Nat} {Q : List (List Int)} {C : List (Int × Int)} {d : Nat} {XL : Nat} {XS : Nat → Int}
theorem take_add {l : List Int} {k n : Nat} : l.take k ++ (l.drop k).take n = l.take (k + n) := by
  rw [List.take_add]
theorem pp_ltB {n k : Nat} (hp : okA pp) (h7 : n ≤ 7) (hl : k + n ≤ pp.length) : ppN pp n k 0 < 72057594037927936 := by
  have e := ppN_v n k pp 0 (fun y hy => by have := hp y hy; omega) hl
  rw [show ((0 : Nat) : Int) = 0 from rfl] at e
  have ln : (((pp.drop k).take n).map Int.toNat).length = n := by
    rw [List.length_map, List.length_take, List.length_drop]
    omega
  have b : ∀ y ∈ ((pp.drop k).take n).map Int.toNat, y < 256 := fun y hy => by
    obtain ⟨z, hz, rfl⟩ := List.mem_map.mp hy
    have := hp z (List.mem_of_mem_drop (List.mem_of_mem_take hz))
    omega
  have lt := vL8_lt n _ ln b
  have p7 : 256 ^ n ≤ 256 ^ 7 := Nat.pow_le_pow_right (by decide) h7
  have p8 : (256 : Nat) ^ 7 = 72057594037927936 := by decide
  rw [e]
  omega
theorem l_ty43 {rest : Int → GS → Prop} {k n : Nat} (hp : okA pp) (h4 : pp.length ≤ 400) (hd : 10 ≤ d) (hk : k < pp.length) (h1 : 1 ≤ n) (h7 : n ≤ 7) (hl : k + n ≤ pp.length) (h : ClS stT Ds (pp.take k) pp 0 L Q C S) (hr : ∀ S1, ClS stT Ds (pp.take (k + n)) pp 0 L Q C S1 → Ev (fun m => f_L_retyped XL XS m d 22 S1 [(pp.length : Int), (k : Int) + 7]) rest) : Ev (fun m => f_L_retyped XL XS m d 43 S [(pp.length : Int), (k : Int), (n : Int)]) rest := by
  have ex := ex_e
  have ty := typ_ok hp h1 h7 hl
  have lt := pp_ltB hp h7 hl
  have ltk : (pp.take k).length = k := by
    rw [List.length_take]
    omega
  refine ev_up (fun n => e_L_retyped_43) ?_
  unfold b_L_retyped_43
  refine ev_gg (by first | omega | (constructor <;> omega)) ?_
  have kp := c_paper (p := (k : Int)) (n := (n : Int)) (d := d - 1) h (fun x hx => by have := hp x hx; omega) (by omega) ⟨by omega, by omega⟩ ⟨by omega, by omega⟩
  rw [if_pos ⟨by omega, by omega⟩, if_pos ⟨by omega, by omega, by omega⟩, Int.toNat_natCast, Int.toNat_natCast] at kp
  refine ev_gcr kp ?_
  refine ev_ite (fun _ => ?_) (fun z => by omega)
  refine ev_gc (c_write (a := ppN pp n k 0) (n := (n : Int)) (d := d - 1) h (by omega) ⟨by omega, by omega⟩) (fun x S1 q => ?_)
  rw [Int.toNat_natCast, if_pos ⟨by omega, by omega, ty.1⟩, ltk, if_pos (by omega), ty.2, take_add] at q
  obtain ⟨q1, q2⟩ := q
  refine ev_ite (fun _ => ?_) (fun z => by omega)
  refine ev_gv ?_
  exact hr S1 q2
theorem l_ty22 (hp : okA pp) (h4 : pp.length ≤ 400) (hd : 10 ≤ d) : ∀ (u k : Nat) (S : GS), pp.length < k + u → k ≤ 1000 → ClS stT Ds (pp.take k) pp 0 L Q C S → Ev (fun m => f_L_retyped XL XS m d 22 S [(pp.length : Int), (k : Int)]) (fun x S1 => x = 1 ∧ ClS stT Ds pp pp 0 L Q C S1)
  | 0, k, S, hu, hk, h => by
    have ex := ex_e
    have ee : pp.take k = pp := List.take_of_length_le (by omega)
    rw [ee] at h
    refine ev_up (fun n => e_L_retyped_22) ?_
    unfold b_L_retyped_22
    refine ev_gg (by first | omega | (constructor <;> omega)) ?_
    refine ev_gg (by first | omega | (constructor <;> omega)) ?_
    refine ev_ite (fun _ => ?_) (fun z => by omega)
    refine ev_gg (by first | omega | (constructor <;> omega)) ?_
    refine ev_gcr (k_sum1 (d := d - 1) h (by omega)) ?_
    refine ev_ite (fun _ => ?_) (fun z => by omega)
    refine ev_gg (by first | omega | (constructor <;> omega)) ?_
    refine ev_ite (fun z => absurd rfl z) (fun _ => ?_)
    exact ev_ret ⟨rfl, h⟩
  | u + 1, k, S, hu, hk, h => by
    have ex := ex_e
    by_cases c : pp.length ≤ k
    · have ee : pp.take k = pp := List.take_of_length_le c
      rw [ee] at h
      refine ev_up (fun n => e_L_retyped_22) ?_
      unfold b_L_retyped_22
      refine ev_gg (by first | omega | (constructor <;> omega)) ?_
      refine ev_gg (by first | omega | (constructor <;> omega)) ?_
      refine ev_ite (fun _ => ?_) (fun z => by omega)
      refine ev_gg (by first | omega | (constructor <;> omega)) ?_
      refine ev_gcr (k_sum1 (d := d - 1) h (by omega)) ?_
      refine ev_ite (fun _ => ?_) (fun z => by omega)
      refine ev_gg (by first | omega | (constructor <;> omega)) ?_
      refine ev_ite (fun z => absurd rfl z) (fun _ => ?_)
      exact ev_ret ⟨rfl, h⟩
    · refine ev_up (fun n => e_L_retyped_22) ?_
      unfold b_L_retyped_22
      refine ev_gg (by first | omega | (constructor <;> omega)) ?_
      refine ev_gg (by first | omega | (constructor <;> omega)) ?_
      refine ev_ite (fun z => by omega) (fun _ => ?_)
      refine ev_gv ?_
      refine ev_gg (by first | omega | (constructor <;> omega)) ?_
      refine ev_ite (fun z => ?_) (fun z => ?_)
      · show Ev (fun m => f_L_retyped XL XS m d 43 S [(pp.length : Int), (k : Int), ((7 : Nat) : Int)]) _
        refine l_ty43 (n := 7) hp h4 hd (by omega) (by decide) (by decide) (by omega) h (fun S1 h1 => ?_)
        have := l_ty22 hp h4 hd u (k + 7) S1 (by omega) (by omega) h1
        rw [show ((k + 7 : Nat) : Int) = (k : Int) + 7 by omega] at this
        exact this
      · refine ev_gv ?_
        rw [show (pp.length : Int) - (k : Int) = ((pp.length - k : Nat) : Int) by omega]
        refine l_ty43 (n := pp.length - k) hp h4 hd (by omega) (by omega) (by omega) (by omega) h (fun S1 h1 => ?_)
        rw [List.take_of_length_le (show pp.length ≤ k + (pp.length - k) by omega)] at h1
        have := l_ty22 hp h4 hd u (k + 7) S1 (by omega) (by omega) (by rw [List.take_of_length_le (show pp.length ≤ k + 7 by omega)]; exact h1)
        rw [show ((k + 7 : Nat) : Int) = (k : Int) + 7 by omega] at this
        exact this
theorem pp_40 (h : ClS stT Ds pg pp 0 L Q C S) : pp.length ≤ 40000 := Nat.le_trans h.2.2.1.2.1 (by decide)
/-- retyped: if there is room, THE PAGE is as THE PAPER -/
theorem l_retyped (h : ClS stT Ds pg pp 0 L Q C S) (hp : okA pp) (hd : 10 ≤ d) : Ev (fun m => f_L_retyped XL XS m d 0 S []) (fun x S1 => (x = 1 ∧ ClS stT Ds pp pp 0 L Q C S1) ∨ (x = 0 ∧ ClS stT Ds pg pp 0 L Q C S1)) := by
  have ex := ex_e
  have h9 : pp.length ≤ 40000 := pp_40 h
  refine ev_up (fun n => e_L_retyped_0) ?_
  unfold b_L_retyped_0
  refine ev_gg (by first | omega | (constructor <;> omega)) ?_
  refine ev_gcr (k_sum2 (d := d - 1) h (by omega)) ?_
  refine ev_ite (fun _ => ?_) (fun z => by omega)
  refine ev_gg (by first | omega | (constructor <;> omega)) ?_
  refine ev_ite (fun z => ?_) (fun z => ?_)
  · refine ev_gc (c_wipe (d := d - 1) h (by omega)) (fun x S1 q => ?_)
    have h1 : ClS stT Ds (pp.take 0) pp 0 L Q C S1 := q.2
    exact ev_mono (l_ty22 hp (by omega) hd (pp.length + 1) 0 S1 (by omega) (by omega) h1) (fun x S2 q => Or.inl q)
  · exact ev_ret (Or.inr ⟨rfl, h⟩)
end XTY
