/-! THE REFERENCE asks SCHEMAS -/
/-- these NODES are SCHEMAS, and all that they ask -/
def OkS (Sc : List ND) (ok : Nat → Prop) : Prop := (∀ i, ok i → i < Sc.length ∧ (nk Sc i = 5 ∨ nk Sc i = 1) ∧ ∀ w said : Nat, 1 ≤ w → w ≤ 15 → vLk Sc (i : Int) (sx (30 + w)) = (said : Int) → okWd Sc w said ∧ ((w = 7 ∨ w = 11 ∨ w = 12 ∨ w = 13) → ∀ c ∈ kids Sc said, ok c) ∧ ((w = 8 ∨ w = 9 ∨ w = 14) → ok said)) ∧ ∀ (q : List Int) (t : Nat), vLk Sc (vLk Sc 0 (sx 53)) q = (t : Int) → ok t
section ASK
variable {S : GS} {d A B k : Nat} {Sc T : List ND} {refs cs : List (Int × Int)} {n : Int}
theorem vl_kid {i t : Nat} {q : List Int} (h : vLk Sc (i : Int) q = (t : Int)) : t ∈ kids Sc i := by
  unfold vLk at h
  split at h
  · rw [Int.toNat_natCast] at h
    rcases fdK_mem (V := Sc) (key := q) (kidsM Sc i) with z | ⟨c, hc, z, _⟩
    · rw [z] at h; omega
    · rw [z] at h
      have e : c = t := by omega
      rw [← e]
      unfold kidsM at hc
      split at hc
      · exact hc
      · cases hc
  · omega
theorem hgt_kid (hS : TR Sc ∧ PZL Sc) {i c : Nat} {b : Int} (hi : i < Sc.length) (hc : c ∈ kids Sc i) (h : ∀ r, dpS r (sg Sc i) ≤ b) : ∀ r, dpS r (sg Sc c) ≤ b - 1 := by
  have zS := pz_l hS.2
  have w3 := hS.1.1.2.2 i hi
  have m := mem_kids zS hc
  have z1 := zS i
  have r4 : 4 ≤ rk (sg Sc i) := by
    rw [rk_sg hi z1]
    by_cases z : 4 ≤ nk Sc i
    · exact z
    · have := w3 (by omega)
      omega
  refine dp_kd (b := b - 1) (T := sg Sc i) (fun g => by have := h g; omega) r4 ?_
  rw [kd_sg hS.2 hS.1.1 hi]
  exact List.mem_map.mpr ⟨c, hc, rfl⟩
end ASK
