/-! THE REFERENCE: how deep; whether what was made is a DOCUMENT -/
def ukN (V : List ND) (i k : Nat) : Int := if 4 ≤ nk V k then upN V i 100 k else 0
def mxN (V : List ND) (i : Nat) : Nat → Nat → Int
  | 0, _ => 0
  | t + 1, k => max (ukN V i k) (mxN V i t (k + 1))
section DEEP
variable {V : List ND}
theorem dpM_mx {i : Nat} : ∀ (t k : Nat) (m : Int), 0 ≤ m → dpM V i t k m = max m (mxN V i t k)
  | 0, k, m, h => by unfold dpM mxN; omega
  | t + 1, k, m, h => by
    unfold dpM mxN ukN
    by_cases c : 4 ≤ nk V k
    · by_cases c2 : m < upN V i 100 k
      · rw [if_pos ⟨c, c2⟩, if_pos c, dpM_mx t (k + 1) _ (by omega)]; omega
      · rw [if_neg (fun z => c2 z.2), if_pos c, dpM_mx t (k + 1) _ h]; omega
    · rw [if_neg (fun z => c z.1), if_neg c, dpM_mx t (k + 1) _ h]; omega
theorem mxN_0 {i : Nat} : ∀ (t k : Nat), 0 ≤ mxN V i t k
  | 0, k => Int.le_refl _
  | t + 1, k => by have := mxN_0 (i := i) t (k + 1); unfold mxN; omega
theorem mxN_add {i : Nat} : ∀ (t s k : Nat), mxN V i (t + s) k = max (mxN V i t k) (mxN V i s (k + t))
  | 0, s, k => by
    have := mxN_0 (V := V) (i := i) s k
    rw [Nat.zero_add, Nat.add_zero]
    show mxN V i s k = max 0 (mxN V i s k)
    omega
  | t + 1, s, k => by
    rw [show t + 1 + s = (t + s) + 1 by omega]
    show max (ukN V i k) (mxN V i (t + s) (k + 1)) = max (max (ukN V i k) (mxN V i t (k + 1))) (mxN V i s (k + (t + 1)))
    rw [mxN_add t s (k + 1), show k + 1 + t = k + (t + 1) by omega]
    omega
def bmp (x : Int) : Int := if x = 0 then 0 else x + 1
theorem bmp_max {a b : Int} (ha : 0 ≤ a) (hb : 0 ≤ b) : bmp (max a b) = max (bmp a) (bmp b) := by
  unfold bmp
  split <;> split <;> split <;> omega
/-- from a VALUE on it is one step more -/
theorem upN_kid (hV : TR V ∧ PZL V) {i c : Nat} (hi : i < V.length) (hc : c ∈ kids V i) : ∀ (f k : Nat), c ≤ k → k < c + nz V c → k - c ≤ f → upN V i (f + 1) k = upN V c f k + 1
  | 0, k, k1, k2, k3 => by
    have hz := pz_l hV.2
    have ki := kid_in3 hV.1.1 hz hi hc
    have : k = c := by omega
    subst this
    obtain ⟨K1, K2, e⟩ := List.append_of_mem hc
    have ow := (kid_own hV.1.1 hz e).1
    show (if k = i then (1 : Int) else upN V i 0 (owI V k).toNat + 1) = 1 + 1
    rw [if_neg (by omega)]
    rfl
  | f + 1, k, k1, k2, k3 => by
    have hz := pz_l hV.2
    have ki := kid_in3 hV.1.1 hz hi hc
    show (if k = i then (1 : Int) else upN V i (f + 1) (owI V k).toNat + 1) = (if k = c then (1 : Int) else upN V c f (owI V k).toNat + 1) + 1
    rw [if_neg (by omega)]
    by_cases e : k = c
    · subst e
      obtain ⟨K1, K2, e⟩ := List.append_of_mem hc
      have ow := (kid_own hV.1.1 hz e).1
      rw [if_pos rfl, ow, Int.toNat_natCast]
      unfold upN
      rw [if_pos rfl]
    · rw [if_neg e]
      have kl : k < V.length := by have := hV.1.1.1 c ki.2.1; omega
      obtain ⟨o, o1, o2, o3, o4, o5⟩ := own_kid hV (i := k) (by omega) kl
      rw [o1, Int.toNat_natCast]
      have oi : c ≤ o := by
        by_cases z : c ≤ o
        · exact z
        · obtain ⟨K1, K2, e⟩ := List.append_of_mem o4
          have := ks_ahead hV.1.1 (pz_l hV.2) K1 (o + 1) e c (by omega) (by omega)
          omega
      rw [upN_kid hV hi hc f o oi (by omega) (by omega)]
theorem mx_kid (hV : TR V ∧ PZL V) (hl : V.length ≤ 100) {i c : Nat} (hi : i < V.length) (hc : c ∈ kids V i) : ∀ (t k : Nat), c ≤ k → k + t ≤ c + nz V c → mxN V i t k = bmp (mxN V c t k)
  | 0, k, k1, k2 => rfl
  | t + 1, k, k1, k2 => by
    have hz := pz_l hV.2
    have ki := kid_in3 hV.1.1 hz hi hc
    have kl : k < V.length := by have := hV.1.1.1 c ki.2.1; omega
    unfold mxN
    rw [mx_kid hV hl hi hc t (k + 1) (by omega) (by omega)]
    have e : ukN V i k = bmp (ukN V c k) := by
      unfold ukN
      by_cases z : 4 ≤ nk V k
      · rw [if_pos z, if_pos z]
        have a := upN_kid hV hi hc 100 k k1 (by omega) (by omega)
        have b := upN_st hV (i := i) 101 100 k kl (by omega) (by have := hV.1.1.2.1 i c ki.1 (by have := hz c; omega); omega) (by omega) (by omega)
        have c' := (upN_le hV (i := c) 100 k kl k1 (by omega) (by omega)).1
        rw [← b, a]
        unfold bmp
        rw [if_neg (by omega)]
      · rw [if_neg z, if_neg z]
        rfl
    have u0 : 0 ≤ ukN V c k := by
      unfold ukN
      split
      · have := (upN_le hV (i := c) 100 k kl k1 (by omega) (by omega)).1
        omega
      · exact Int.le_refl _
    rw [e, bmp_max u0 (mxN_0 _ _)]
theorem dp_fuel : ∀ (f : Nat) (T : List ND), dpS f T ≤ (f : Int) - 1 → ∀ g, f ≤ g → dpS g T = dpS f T
  | 0, T, h, g, hg => by have := dp_0 (g := 0) (T := T); omega
  | f + 1, T, h, g, hg => by
    obtain ⟨g, rfl⟩ : ∃ g', g = g' + 1 := ⟨g - 1, by omega⟩
    unfold dpS at h ⊢
    by_cases c : 4 ≤ rk T
    · rw [if_pos c] at h
      rw [if_pos c, if_pos c]
      have fl : ∀ (L : List (List ND)) (m : Int), (L.foldl (fun a k => max a (dpS f k)) m) ≤ (f : Int) - 1 → m ≤ (L.foldl (fun a k => max a (dpS f k)) m) ∧ L.foldl (fun a k => max a (dpS g k)) m = L.foldl (fun a k => max a (dpS f k)) m := by
        intro L
        induction L with
        | nil => intro m _; exact ⟨Int.le_refl _, rfl⟩
        | cons t L ih =>
          intro m hm
          rw [List.foldl_cons] at hm ⊢
          have i1 := ih _ hm
          have e := dp_fuel f t (by omega) g (by omega)
          refine ⟨by omega, ?_⟩
          rw [List.foldl_cons, e]
          exact i1.2
      rw [(fl (kd T) 0 (by omega)).2]
    · rw [if_neg c, if_neg c]
/-- the depth by steps up is the depth -/
theorem mx_dp (hV : TR V ∧ PZL V) (hl : V.length ≤ 100) : ∀ (f i : Nat), i < V.length → nz V i ≤ f → mxN V i (nz V i) i = dpS f (sg V i)
  | 0, i, hi, hf => by have := pz_l hV.2 i; omega
  | f + 1, i, hi, hf => by
    have hz := pz_l hV.2
    have zi := hz i
    have wi := hV.1.1.1 i hi
    have rkk := rk_sg hi zi
    unfold dpS
    rw [rkk]
    by_cases c : 4 ≤ nk V i
    · rw [if_pos c, kd_sg hV.2 hV.1.1 hi, List.foldl_map]
      have ks_ : ∀ (K : List Nat) (a : Nat), ks V a (i + nz V i) = K → i < a → a ≤ i + nz V i → (∀ c ∈ K, c ∈ kids V i) → ∀ (m : Int), 0 ≤ m → max (m + 1) (mxN V i (i + nz V i - a) a) = K.foldl (fun (x : Int) (k : Nat) => max x (dpS f (sg V k))) m + 1 := by
        intro K
        induction K with
        | nil =>
          intro a e a1 a2 hK m hm
          have : a = i + nz V i := by
            by_cases z : a < i + nz V i
            · rw [ks_cons hz z] at e; cases e
            · omega
          subst this
          rw [Nat.sub_self]
          show max (m + 1) 0 = m + 1
          omega
        | cons q K ih =>
          intro a e a1 a2 hK m hm
          have z : a < i + nz V i := by
            by_cases z : a < i + nz V i
            · exact z
            · rw [ks_nil (by omega)] at e; cases e
          rw [ks_cons hz z] at e
          have e1 := List.cons.inj e
          obtain ⟨rfl, e2⟩ := e1
          have qk := hK a List.mem_cons_self
          have ki := kid_in3 hV.1.1 hz hi qk
          have za := hz a
          rw [show i + nz V i - a = nz V a + (i + nz V i - (a + nz V a)) by omega, mxN_add, mx_kid hV hl hi qk (nz V a) a (Nat.le_refl _) (Nat.le_refl _), mx_dp hV hl f a ki.2.1 (by omega), List.foldl_cons]
          have p0 := dp_0 (g := f) (T := sg V a)
          have := ih (a + nz V a) e2 (by omega) ki.2.2 (fun c hc => hK c (List.mem_cons_of_mem _ hc)) (max m (dpS f (sg V a))) (by omega)
          rw [← this]
          unfold bmp
          split <;> omega
      have := ks_ (kids V i) (i + 1) rfl (by omega) (by omega) (fun c hc => hc) 0 (Int.le_refl _)
      rw [show nz V i = (i + nz V i - (i + 1)) + 1 by omega]
      unfold mxN
      have e1 : ukN V i i = 1 := by
        unfold ukN
        rw [if_pos c]
        unfold upN
        rw [if_pos rfl]
      rw [e1]
      omega
    · rw [if_neg c]
      have z1 := hV.1.1.2.2 i hi (by omega)
      rw [z1]
      unfold mxN mxN ukN
      rw [if_neg c]
      rfl
theorem dpM_S (hV : TR V ∧ PZL V) (hl : V.length ≤ 100) {i : Nat} (hi : i < V.length) : dpM V i (nz V i) i 0 = dpS 100 (sg V i) := by
  have w := hV.1.1.1 i hi
  rw [dpM_mx _ _ _ (Int.le_refl _), mx_dp hV hl 100 i hi (by omega)]
  have := dp_0 (g := 100) (T := sg V i)
  omega
theorem pOK_100 {T : List ND} : dpS 100 T ≤ 12 ↔ dpS 13 T ≤ 12 := ⟨fun h => dp_all 100 T 12 h (by decide) 13, fun h => dp_all 13 T 12 h (by decide) 100⟩
end DEEP
section RWH
variable {S : GS} {d K : Nat} {T : List ND}
abbrev whP (K : Nat) : Nat → Nat → Prop := fun c j => (c = 501 ∧ 6161 * K ≤ j ∧ j < 6161 * K + 6161) ∨ c = 505 ∨ c = 506
theorem q_isWhole {k : Int} (hd : 5 ≤ d) (hk : k = (K : Int)) (hK : K < 48) (hT : TR T ∧ PZL T) (hr : T.length ≤ 100 → ∀ y ∈ T, NR y) (h : MD S K (apM (some []) (mny T))) : Ev (fun n => f_X12_isWhole n d 0 S [k]) (fun x S1 => x = (if pOK T then 1 else 0) ∧ (pOK T → LK S1 K T) ∧ FC (whP K) S S1) := by
  subst hk
  have l1 := hT.1.2.1
  refine ev_up (fun n => e_X12_isWhole_0) ?_
  unfold b_X12_isWhole_0
  by_cases c : T.length ≤ 100
  · have e : apM (some []) (mny T) = some (mny T) := by
      unfold apM
      dsimp only
      rw [if_pos (by rw [mny_len, List.length_nil]; omega)]
      rfl
    rw [e] at h
    obtain ⟨h1, h2⟩ := h
    rw [h1, show bi false = 0 from rfl]
    refine ev_gv ?_
    refine ev_gg (by decide) ?_
    refine ev_ite (fun z => by omega) (fun _ => ?_)
    refine ev_gg (by first | omega | (constructor <;> omega)) ?_
    refine ev_gv ?_
    rw [Int.toNat_natCast, h2.1, mny_len]
    refine ev_gg (by first | omega | (constructor <;> omega)) ?_
    refine ev_ite (fun _ => ?_) (fun z => by omega)
    refine ev_gg (by first | omega | (constructor <;> omega)) ?_
    refine ev_gc (q_link (d := d - 1) (V := T) (by omega) rfl hK hT (hr c) h2) (fun _ S1 q => ?_)
    obtain ⟨q1, q2⟩ := q
    have f1 : FC (whP K) S S1 := fc_mono q2 (fun c j z => by omega)
    refine ev_gcr (q_deepOf (d := d - 1) (K := K) (V := T) (I := 0) (by omega) rfl hK rfl q1 hT (by omega)) ?_
    rw [dpM_S hT c (by omega), sg_selT hT.1]
    have p0 := dp_0 (g := 100) (T := T)
    have p1 : dpS 100 T ≤ 200 := by
      have := mx_dp hT c 100 0 (by omega) (by have := hT.1.1.1 0 (by omega); omega)
      rw [sg_selT hT.1] at this
      have b : ∀ (t k : Nat), k + t ≤ T.length → mxN T 0 t k ≤ 200 := by
        intro t
        induction t with
        | zero => intro k _; show (0 : Int) ≤ 200; decide
        | succ t ih =>
          intro k hk
          have i1 := ih (k + 1) (by omega)
          unfold mxN ukN
          have z0 : nz T 0 = T.length := hT.1.2.2
          have u := upN_le hT (i := 0) 100 k (by omega) (by omega) (by omega) (by omega)
          split <;> omega
      have := b (nz T 0) 0 (by have := hT.1.1.1 0 (by omega); omega)
      omega
    refine ev_gg (by first | omega | (constructor <;> omega)) ?_
    refine ev_ite (fun z => ?_) (fun z => ?_)
    · refine ev_ret ⟨?_, fun p => absurd (pOK_100.mpr p.2) (by omega), f1⟩
      rw [if_neg (fun p => absurd (pOK_100.mpr p.2) (by omega))]
    · refine ev_ret ⟨?_, fun _ => q1, f1⟩
      rw [if_pos ⟨c, pOK_100.mp (by omega)⟩]
  · have e : apM (some []) (mny T) = none := by
      unfold apM
      dsimp only
      rw [if_neg (by rw [mny_len, List.length_nil]; omega)]
    rw [e] at h
    rw [h.1, show bi true = 1 from rfl]
    refine ev_gv ?_
    refine ev_gg (by decide) ?_
    refine ev_ite (fun _ => ?_) (fun z => by omega)
    refine ev_ret ⟨?_, fun p => absurd p.1 c, fc_rf⟩
    rw [if_neg (fun p => c p.1)]
end RWH
