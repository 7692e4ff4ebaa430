/-! p37: what stands on THE PAPER is typed on THE PAGE again -/
theorem ltr_nat (m i : Nat) : ltr (m : Int) i = ((m % 18446744073709551616 / 2 ^ (8 * i) % 256 : Nat) : Int) := by
  unfold ltr
  rw [show (18446744073709551616 : Int) = ((18446744073709551616 : Nat) : Int) from rfl, show (256 : Int) = ((256 : Nat) : Int) from rfl, ← Int.natCast_emod, ← Int.natCast_ediv, ← Int.natCast_emod]
theorem ltr_s {m i : Nat} (h : m < 18446744073709551616) : ltr (m : Int) (i + 1) = ltr ((m / 256 : Nat) : Int) i := by
  rw [ltr_nat, ltr_nat, Nat.mod_eq_of_lt h, Nat.mod_eq_of_lt (a := m / 256) (by omega)]
  have e : 2 ^ (8 * (i + 1)) = 256 * 2 ^ (8 * i) := by
    rw [show 8 * (i + 1) = 8 + 8 * i by omega, Nat.pow_add]
  rw [e, Nat.div_div_eq_div_mul]
theorem ltr_0 {m : Nat} (h : m < 18446744073709551616) : ltr (m : Int) 0 = ((m % 256 : Nat) : Int) := by
  rw [ltr_nat, Nat.mod_eq_of_lt h]
  simp
theorem wrD_s {m : Nat} (h : m < 18446744073709551616) : ∀ (n : Nat), wrD (m : Int) (n + 1) = wrD ((m / 256 : Nat) : Int) n ++ [((m % 256 : Nat) : Int)]
  | 0 => by
    show [ltr (m : Int) 0] = _
    rw [ltr_0 h]
    rfl
  | n + 1 => by
    show ltr (m : Int) (n + 1) :: wrD (m : Int) (n + 1) = (ltr ((m / 256 : Nat) : Int) n :: wrD ((m / 256 : Nat) : Int) n) ++ _
    rw [wrD_s h n, ltr_s h]
    rfl
/-- signs as figures to the base 256 -/
def vL8 : List Nat → Nat → Nat
  | [], x => x
  | y :: L, x => vL8 L (256 * x + y)
theorem vL8_snoc : ∀ (L : List Nat) (y x : Nat), vL8 (L ++ [y]) x = 256 * vL8 L x + y
  | [], _, _ => rfl
  | z :: L, y, x => vL8_snoc L y (256 * x + z)
theorem vL8_lt : ∀ (n : Nat) (L : List Nat), L.length = n → (∀ y ∈ L, y < 256) → vL8 L 0 < 256 ^ n
  | 0, L, hn, _ => by
    have : L = [] := List.eq_nil_of_length_eq_zero hn
    rw [this]
    decide
  | n + 1, L, hn, h => by
    have ne : L ≠ [] := fun z => by rw [z] at hn; simp at hn
    have e := List.dropLast_concat_getLast ne
    have i := vL8_lt n L.dropLast (by rw [List.length_dropLast, hn]; rfl) (fun y hy => h y (List.dropLast_subset _ hy))
    have l := h _ (List.getLast_mem ne)
    rw [← e, vL8_snoc, Nat.pow_succ]
    omega
theorem wrD_v : ∀ (n : Nat) (L : List Nat), n ≤ 7 → L.length = n → (∀ y ∈ L, y < 256) → wrD ((vL8 L 0 : Nat) : Int) n = L.map (fun y : Nat => (y : Int))
  | 0, L, _, hn, _ => by
    have : L = [] := List.eq_nil_of_length_eq_zero hn
    rw [this]
    rfl
  | n + 1, L, h7, hn, h => by
    have ne : L ≠ [] := fun z => by rw [z] at hn; simp at hn
    have e := List.dropLast_concat_getLast ne
    have hd : L.dropLast.length = n := by rw [List.length_dropLast, hn]; rfl
    have hh : ∀ y ∈ L.dropLast, y < 256 := fun y hy => h y (List.dropLast_subset _ hy)
    have i := wrD_v n L.dropLast (by omega) hd hh
    have l := h _ (List.getLast_mem ne)
    have lt := vL8_lt (n + 1) L hn h
    have p7 : 256 ^ (n + 1) ≤ 256 ^ 7 := Nat.pow_le_pow_right (by decide) h7
    have p8 : (256 : Nat) ^ 7 = 72057594037927936 := by decide
    rw [wrD_s (by omega)]
    rw [← e, vL8_snoc, show (256 * vL8 L.dropLast 0 + L.getLast ne) / 256 = vL8 L.dropLast 0 by omega, show (256 * vL8 L.dropLast 0 + L.getLast ne) % 256 = L.getLast ne by omega, i, List.map_append]
    rfl
theorem ppN_v : ∀ (n k : Nat) (pp : List Int) (x : Nat), (∀ y ∈ pp, 0 ≤ y) → k + n ≤ pp.length → ppN pp n k (x : Int) = ((vL8 (((pp.drop k).take n).map Int.toNat) x : Nat) : Int)
  | 0, k, pp, x, _, _ => by simp [ppN, vL8]
  | n + 1, k, pp, x, h, hl => by
    have hk : k < pp.length := by omega
    have e : pp.drop k = pp.getD k 0 :: pp.drop (k + 1) := by
      rw [List.drop_eq_getElem_cons hk, List.getD_eq_getElem?_getD, List.getElem?_eq_getElem hk]
      rfl
    have h0 : 0 ≤ pp.getD k 0 := h _ (getD_in hk)
    show ppN pp n (k + 1) (256 * (x : Int) + pp.getD k 0) = _
    rw [e, List.take_succ_cons, List.map_cons]
    show _ = ((vL8 (((pp.drop (k + 1)).take n).map Int.toNat) (256 * x + (pp.getD k 0).toNat) : Nat) : Int)
    rw [← ppN_v n (k + 1) pp (256 * x + (pp.getD k 0).toNat) h (by omega)]
    congr 1
    omega
theorem alS_al {a : Int} : ∀ (f t : Nat), (∀ i, t ≤ i → i < t + f → okS (ltr a i)) → alS a f t = 1
  | 0, _, _ => rfl
  | f + 1, t, h => by
    show (if okS (ltr a t) then alS a f (t + 1) else 0) = 1
    rw [if_pos (h t (Nat.le_refl _) (by omega)), alS_al f (t + 1) (fun i h1 h2 => h i (by omega) (by omega))]
theorem wrD_mem {a : Int} : ∀ (n i : Nat), i < n → ltr a i ∈ wrD a n
  | 0, i, h => by omega
  | n + 1, i, h => by
    show ltr a i ∈ ltr a n :: wrD a n
    by_cases c : i = n
    · rw [c]; exact List.mem_cons_self
    · exact List.mem_cons_of_mem _ (wrD_mem n i (by omega))
/-- what is typed of the PAPER -/
theorem typ_ok {pp : List Int} {k n : Nat} (hp : ∀ y ∈ pp, okS y) (h1 : 1 ≤ n) (h7 : n ≤ 7) (hl : k + n ≤ pp.length) : asL n (ppN pp n k 0) = 1 ∧ wrD (ppN pp n k 0) n = (pp.drop k).take n := by
  have e := ppN_v n k pp 0 (fun y hy => by have := hp y hy; omega) hl
  rw [show ((0 : Nat) : Int) = 0 from rfl] at e
  have ln : (((pp.drop k).take n).map Int.toNat).length = n := by
    rw [List.length_map, List.length_take, List.length_drop]
    omega
  have mem : ∀ y ∈ (pp.drop k).take n, okS y := fun y hy => hp y (List.mem_of_mem_drop (List.mem_of_mem_take hy))
  have b : ∀ y ∈ ((pp.drop k).take n).map Int.toNat, y < 256 := fun y hy => by
    obtain ⟨z, hz, rfl⟩ := List.mem_map.mp hy
    have := mem z hz
    omega
  have w := wrD_v n _ h7 ln b
  rw [← e, List.map_map] at w
  have w2 : ((pp.drop k).take n).map ((fun y : Nat => (y : Int)) ∘ Int.toNat) = (pp.drop k).take n := by
    have : ∀ L : List Int, (∀ y ∈ L, okS y) → L.map ((fun y : Nat => (y : Int)) ∘ Int.toNat) = L := fun L hL => by
      have : L.map ((fun y : Nat => (y : Int)) ∘ Int.toNat) = L.map id := List.map_congr_left (fun y hy => by
        have := hL y hy
        show ((y.toNat : Nat) : Int) = y
        omega)
      rw [this, List.map_id]
    exact this _ mem
  rw [w2] at w
  have lt := vL8_lt n _ ln b
  refine ⟨?_, w⟩
  unfold asL
  have p7 : 256 ^ n ≤ 256 ^ 7 := Nat.pow_le_pow_right (by decide) h7
  have p8 : (256 : Nat) ^ 7 = 72057594037927936 := by decide
  have pw : 2 ^ (8 * n) = 256 ^ n := by rw [Nat.pow_mul]
  rw [if_neg (fun z => z.2 (by
    rw [e, show (18446744073709551616 : Int) = ((18446744073709551616 : Nat) : Int) from rfl, ← Int.natCast_emod, ← Int.natCast_ediv, Nat.mod_eq_of_lt (by omega), pw, Nat.div_eq_of_lt lt]
    rfl))]
  refine alS_al n 0 (fun i _ hi => ?_)
  have := wrD_mem (a := ppN pp n k 0) n i (by omega)
  rw [w] at this
  exact mem _ this
