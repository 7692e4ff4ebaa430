/-! p37: joining gives the same whichever is told first (2) -/
section JNT
variable {O A B : List ND}
theorem acT_c {V : List ND} {c : Nat} : acT V (c : Int) = [sg V c] := by
  unfold acT
  rw [if_neg (by omega), Int.toNat_natCast]
theorem jn_only3 {f : Nat} {o a b : Int} : ∀ q c, vLk O o q = -1 → vLk A a q = -1 → vLk B b q = ((c : Nat) : Int) → (jAt O A B f [] o a b q).1 = [sg B c] ∧ (jAt O A B f [] o a b q).2.length = 0 := fun q c h1 h2 h3 => by
  show (jnF O A B f [] (vLk O o q) (vLk A a q) (vLk B b q)).1 = _ ∧ (jnF O A B f [] (vLk O o q) (vLk A a q) (vLk B b q)).2.length = 0
  rw [h1, h2, h3, j_only (by omega), acT_c]
  exact ⟨rfl, rfl⟩
/-- without MAPS below -/
def jE (O A B : List ND) : Nat → List Int → Int → Int → Int → JR
  | 0, p, _, _, _ => ([], [p])
  | f + 1, p, o, a, b => if kdI A a = 5 ∧ kdI B b = 5 ∧ (o = -1 ∨ kdI O o = 5) then ([gpN (5, 1, 0, [], kI A a) (jvF O A B f p o a b) (jvF O A B f p o a b).length], jqF O A B f p o a b) else ([], [p])
theorem jn_case {f : Nat} {p : List Int} {o a b : Int} : jnF O A B f p o a b = if alk A a B b ∨ alk B b O o then (acT A a, []) else if alk A a O o then (acT B b, []) else jE O A B f p o a b := by
  cases f with
  | zero => rfl
  | succ f => rfl
theorem mp_of {V : List ND} {v : Int} (h : kdI V v = 5) : mpO V v := by
  obtain ⟨a, b, c⟩ := kdI_v h (by decide)
  exact Or.inr ⟨a, b, c⟩
theorem mp_ok {V : List ND} {v : Int} (h : mpO V v) : nOK V v := h.imp id (fun z => ⟨z.1, z.2.1⟩)
/-- the PATH tells QUARRELS alone -/
theorem jn_p (hO : SDC O) (hA : SDC A) (hB : SDC B) : ∀ (f : Nat) (p : List Int) (o a b : Int), (jnF O A B f p o a b).1 = (jnF O A B f [] o a b).1 ∧ (jnF O A B f p o a b).2.length = (jnF O A B f [] o a b).2.length
  | 0, p, o, a, b => by
    rw [jn_case, jn_case]
    split
    · exact ⟨rfl, rfl⟩
    · split
      · exact ⟨rfl, rfl⟩
      · exact ⟨rfl, rfl⟩
  | f + 1, p, o, a, b => by
    rw [jn_case, jn_case]
    split
    · exact ⟨rfl, rfl⟩
    · split
      · exact ⟨rfl, rfl⟩
      · show (if kdI A a = 5 ∧ kdI B b = 5 ∧ (o = -1 ∨ kdI O o = 5) then _ else _ : JR).1 = (if kdI A a = 5 ∧ kdI B b = 5 ∧ (o = -1 ∨ kdI O o = 5) then _ else _ : JR).1 ∧ (if kdI A a = 5 ∧ kdI B b = 5 ∧ (o = -1 ∨ kdI O o = 5) then _ else _ : JR).2.length = (if kdI A a = 5 ∧ kdI B b = 5 ∧ (o = -1 ∨ kdI O o = 5) then _ else _ : JR).2.length
        by_cases c : kdI A a = 5 ∧ kdI B b = 5 ∧ (o = -1 ∨ kdI O o = 5)
        · rw [if_pos c, if_pos c]
          have ho : mpO O o := c.2.2.elim Or.inl mp_of
          have key : ∀ p, jvF O A B f p o a b = ((jKs O A B o a b).map (fun q => (jAt O A B f [] o a b q).1)).flatten ∧ (jqF O A B f p o a b).length = suK (fun q => (jAt O A B f [] o a b q).2.length) (jKs O A B o a b) := fun p => by
            have k := j_keys (g := jnF O A B f) (p := p) hO hA hB ho (mp_of c.1) (mp_of c.2.1) (N := fun q => (jAt O A B f [] o a b q).1) (C := fun q => (jAt O A B f [] o a b q).2.length) (φ := fun t => t) (fun p q => by
              have := jn_p hO hA hB f p (vLk O o q) (vLk A a q) (vLk B b q)
              exact ⟨by rw [List.map_id']; exact this.1, this.2⟩) jn_only3
            rw [List.map_id'] at k
            exact k
          obtain ⟨x1, x2⟩ := key p
          obtain ⟨y1, y2⟩ := key []
          exact ⟨by show [gpN _ _ _] = [gpN _ _ _]; rw [x1, y1], by show (jqF O A B f p o a b).length = (jqF O A B f [] o a b).length; rw [x2, y2]⟩
        · rw [if_neg c, if_neg c]
          exact ⟨rfl, rfl⟩
theorem jv_keys (hO : SDC O) (hA : SDC A) (hB : SDC B) {f : Nat} {o a b : Int} {p : List Int} {α : Type} {φ : List ND → α} (ho : mpO O o) (ha : mpO A a) (hb : mpO B b) : (jvF O A B f p o a b).map φ = ((jKs O A B o a b).map (fun q => (jAt O A B f [] o a b q).1.map φ)).flatten ∧ (jqF O A B f p o a b).length = suK (fun q => (jAt O A B f [] o a b q).2.length) (jKs O A B o a b) :=
  j_keys (g := jnF O A B f) (p := p) hO hA hB ho ha hb (N := fun q => (jAt O A B f [] o a b q).1.map φ) (C := fun q => (jAt O A B f [] o a b q).2.length) (φ := φ) (fun p q => by
    have := jn_p hO hA hB f p (vLk O o q) (vLk A a q) (vLk B b q)
    exact ⟨by rw [this.1], this.2⟩) (fun q c h1 h2 h3 => by
    obtain ⟨x1, x2⟩ := jn_only3 (f := f) q c h1 h2 h3
    exact ⟨by rw [x1]; rfl, x2⟩)
theorem jv_mem (hO : SDC O) (hA : SDC A) (hB : SDC B) {f : Nat} {o a b : Int} {p : List Int} (ho : mpO O o) (ha : mpO A a) (hb : mpO B b) : ∀ t ∈ jvF O A B f p o a b, ∃ q, t ∈ (jAt O A B f [] o a b q).1 := fun t ht => by
  have k := (jv_keys hO hA hB (f := f) (p := p) (φ := fun t => t) ho ha hb).1
  rw [List.map_id'] at k
  rw [k] at ht
  obtain ⟨L, hL, hm⟩ := List.mem_flatten.mp ht
  obtain ⟨q, _, rfl⟩ := List.mem_map.mp hL
  rw [List.map_id'] at hm
  exact ⟨q, hm⟩
theorem flat2 {N : List Int → List (List ND)} : ∀ (L : List (List Int)), ((L.map N).flatten).flatten.length = suK (fun q => (N q).flatten.length) L
  | [] => rfl
  | q :: L => by
    rw [List.map_cons, List.flatten_cons, flat_app, flat2 L]
    rfl
/-- the VALUE of a KEY is less deep -/
theorem vl_dp {V : List ND} (hV : SDC V) {v : Int} {m : Nat} (hk : kdI V v = 5) (hd : v ≠ -1 → ∀ g, dpS g (sg V v.toNat) ≤ ((m + 1 : Nat) : Int)) (q : List Int) : vLk V v q ≠ -1 → ∀ g, dpS g (sg V (vLk V v q).toNat) ≤ (m : Int) := by
  intro hn
  obtain ⟨h1, h2, h3⟩ := kdI_v hk (by decide)
  obtain ⟨n, rfl⟩ : ∃ n : Nat, v = (n : Int) := ⟨v.toNat, by omega⟩
  rw [Int.toNat_natCast] at h3 hd
  have nl : n < V.length := by omega
  rw [vLk_n nl, if_pos h3] at hn ⊢
  rcases fdK_mem (V := V) (key := q) (kids V n) with z | ⟨k, z1, z2, _⟩
  · exact absurd z hn
  · rw [z2, Int.toNat_natCast]
    refine dp_kd (T := sg V n) (b := (m : Int)) (fun g => by have := hd (by omega) g; omega) (by rw [rk_sg nl (pz_l hV.1.2 n)]; omega) ?_
    rw [kd_sg hV.1.2 hV.1.1.1 nl]
    exact List.mem_map_of_mem z1
theorem ac_b {V : List ND} (hV : SDC V) {v : Int} {m : Nat} (hv : nOK V v) (hd : v ≠ -1 → ∀ g, dpS g (sg V v.toNat) ≤ (m : Int)) : (∀ t ∈ acT V v, ∀ g, dpS g t ≤ (m : Int)) ∧ (acT V v).flatten.length = (szI V v).toNat := by
  unfold acT
  rcases hv with z | z
  · rw [if_pos z, z, szI_n]
    exact ⟨fun t ht => by (cases ht), rfl⟩
  · rw [if_neg (by omega)]
    refine ⟨fun t ht => ?_, ?_⟩
    · simp only [List.mem_cons, List.not_mem_nil, or_false] at ht
      rw [ht]
      exact hd (by omega)
    · rw [flat_one, sg_len hV.1.1.1 (by omega)]
      unfold szI
      rw [if_pos z, Int.toNat_natCast]
/-- no more NODES than both have, no deeper -/
theorem jn_b (dO : DOC O) (dA : DOC A) (dB : DOC B) : ∀ (f : Nat) (o a b : Int) (m : Nat), nOK A a → nOK B b → (a ≠ -1 → ∀ g, dpS g (sg A a.toNat) ≤ (m : Int)) → (b ≠ -1 → ∀ g, dpS g (sg B b.toNat) ≤ (m : Int)) → (∀ t ∈ (jnF O A B f [] o a b).1, ∀ g, dpS g t ≤ (m : Int)) ∧ (jnF O A B f [] o a b).1.flatten.length ≤ (szI A a).toNat + (szI B b).toNat := by
  have hO := dO.1
  have hA := dA.1
  have hB := dB.1
  intro f
  induction f with
  | zero =>
    intro o a b m ha hb da db
    rw [jn_case]
    have aa := ac_b hA ha da
    have ab := ac_b hB hb db
    split
    · exact ⟨aa.1, by show (acT A a).flatten.length ≤ _; omega⟩
    · split
      · exact ⟨ab.1, by show (acT B b).flatten.length ≤ _; omega⟩
      · exact ⟨fun t ht => by (cases ht), Nat.zero_le _⟩
  | succ f ih =>
    intro o a b m ha hb da db
    rw [jn_case]
    have aa := ac_b hA ha da
    have ab := ac_b hB hb db
    split
    · exact ⟨aa.1, by show (acT A a).flatten.length ≤ _; omega⟩
    · split
      · exact ⟨ab.1, by show (acT B b).flatten.length ≤ _; omega⟩
      · show (∀ t ∈ (if kdI A a = 5 ∧ kdI B b = 5 ∧ (o = -1 ∨ kdI O o = 5) then _ else _ : JR).1, _) ∧ (if kdI A a = 5 ∧ kdI B b = 5 ∧ (o = -1 ∨ kdI O o = 5) then _ else _ : JR).1.flatten.length ≤ _
        by_cases c : kdI A a = 5 ∧ kdI B b = 5 ∧ (o = -1 ∨ kdI O o = 5)
        · rw [if_pos c]
          have ho : mpO O o := c.2.2.elim Or.inl mp_of
          have ma := mp_of c.1
          have mb := mp_of c.2.1
          obtain ⟨a1, a2, a3⟩ := kdI_v c.1 (by decide)
          obtain ⟨b1, b2, b3⟩ := kdI_v c.2.1 (by decide)
          have za := pz_l hA.1.2
          have zb := pz_l hB.1.2
          have m1 : 1 ≤ m := by
            have := da (by omega) 0
            unfold dpS at this
            rw [rk_sg (by omega) (za _), if_pos (by omega)] at this
            omega
          obtain ⟨m, rfl⟩ : ∃ k, m = k + 1 := ⟨m - 1, by omega⟩
          have at_ := fun q => ih (vLk O o q) (vLk A a q) (vLk B b q) m (vLk_r hA.1.1.1 za a q) (vLk_r hB.1.1.1 zb b q) (vl_dp hA c.1 da q) (vl_dp hB c.2.1 db q)
          have kk := (jv_keys hO hA hB (f := f) (p := []) (φ := fun t => t) ho ma mb).1
          rw [List.map_id'] at kk
          have kk : jvF O A B f [] o a b = ((jKs O A B o a b).map (fun q => (jAt O A B f [] o a b q).1)).flatten := by
            rw [kk]
            congr 1
            exact List.map_congr_left (fun q _ => List.map_id' _)
          have nd := (jKs_nd hO hA hB ho ma mb).1
          obtain ⟨an, rfl⟩ : ∃ n : Nat, a = (n : Int) := ⟨a.toNat, by omega⟩
          obtain ⟨bn, rfl⟩ : ∃ n : Nat, b = (n : Int) := ⟨b.toNat, by omega⟩
          rw [Int.toNat_natCast] at a3 b3
          have sA := jKs_sum hA (n := an) (by omega) a3 nd
          have sB := jKs_sum hB (n := bn) (by omega) b3 nd
          have lv : (jvF O A B f [] o (an : Int) (bn : Int)).flatten.length ≤ (nz A an - 1) + (nz B bn - 1) := by
            rw [kk, flat2]
            refine Nat.le_trans (suK_mono (h := fun q => (szI A (vLk A (an : Int) q)).toNat + (szI B (vLk B (bn : Int) q)).toNat) _ (fun q _ => (at_ q).2)) ?_
            rw [suK_add]
            omega
          have tv : ∀ t ∈ jvF O A B f [] o (an : Int) (bn : Int), ∀ g, dpS g t ≤ (m : Int) := fun t ht => by
            obtain ⟨q, hq⟩ := jv_mem hO hA hB ho ma mb t ht
            exact (at_ q).1 t hq
          have trv : ∀ t ∈ jvF O A B f [] o (an : Int) (bn : Int), TR t ∧ PZL t := fun t ht => by
            obtain ⟨q, hq⟩ := jv_mem hO hA hB ho ma mb t ht
            exact ((jn_ok dO dA dB f [] q _ _ _ (vLk_r hO.1.1.1 (pz_l hO.1.2) o q) (vLk_r hA.1.1.1 za _ q) (vLk_r hB.1.1.1 zb _ q) vLk_key vLk_key).2 t hq).1.1
          refine ⟨fun t ht g => ?_, ?_⟩
          · have ht : t ∈ [gpN (5, 1, 0, [], kI A (an : Int)) (jvF O A B f [] o (an : Int) (bn : Int)) (jvF O A B f [] o (an : Int) (bn : Int)).length] := ht
            simp only [List.mem_cons, List.not_mem_nil, or_false] at ht
            rw [ht]
            have := dp_gp (x := ((5, 1, 0, [], kI A (an : Int)) : ND)) (m := (jvF O A B f [] o (an : Int) (bn : Int)).length) (b := (m : Int)) (by omega) trv tv g
            omega
          · show ([gpN (5, 1, 0, [], kI A (an : Int)) (jvF O A B f [] o (an : Int) (bn : Int)) (jvF O A B f [] o (an : Int) (bn : Int)).length] : List (List ND)).flatten.length ≤ _
            rw [flat_one, gp_len, szI_c (by omega), szI_c (by omega), Int.toNat_natCast, Int.toNat_natCast]
            have := za an
            have := zb bn
            omega
        · rw [if_neg c]
          exact ⟨fun t ht => by (cases ht), Nat.zero_le _⟩
end JNT
