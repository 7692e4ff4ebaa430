/-! p37: a NODE is found by its own PATH alone -/
/-- a WORD that is a KEY of letters or a place -/
abbrev PWd (w : List Int) : Prop := hdI w ≠ 42 ∧ hdI w ≠ 63 ∧ hdI w ≠ 45
def skW (V : List ND) : List (List Int) → List Nat → List Nat
  | [], L => L
  | w :: ws, L => skW V ws (skS V w L)
theorem skF_W {l : List Int} {V : List ND} : ∀ (f i : Nat) (L : List Nat), skF l V f i L = skW V ((List.range f).map (fun k => wdA l (i + k))) L
  | 0, i, L => rfl
  | f + 1, i, L => by
    rw [List.range_succ_eq_map, List.map_cons, List.map_map]
    show skF l V f (i + 1) (skS V (wdA l i) L) = skW V _ (skS V (wdA l (i + 0)) L)
    rw [skF_W f (i + 1), Nat.add_zero]
    have : (List.range f).map (fun k => wdA l (i + 1 + k)) = (List.range f).map ((fun k => wdA l (i + k)) ∘ Nat.succ) := List.map_congr_left (fun k _ => by
      show wdA l (i + 1 + k) = wdA l (i + (k + 1))
      rw [show i + 1 + k = i + (k + 1) by omega])
    rw [this]
    rfl
theorem seek_W {l : List Int} {V : List ND} : seekL l V = skW V (wds l) [0] := by
  unfold seekL wds
  rw [skF_W]
  simp only [Nat.zero_add]
theorem hd_18 : hdI (sx 18) = 42 := by decide +kernel
theorem hd_19 : hdI (sx 19) = 42 := by decide +kernel
theorem sk_one {V : List ND} {w : List Int} {n m : Nat} (hp : PWd w) (h : stpT V (n : Int) w = (m : Int)) (hn : n < V.length) : skS V w [n] = [m] := by
  have e : stpN V w n = (m : Int) := by
    unfold stpT at h
    rw [kdI_n hn, Int.toNat_natCast] at h
    unfold stpN plW
    rw [if_neg hp.2.2]
    exact h
  have s : stC V w n = [m] := by
    unfold stC
    rw [if_neg (fun z => hp.1 (by rw [z]; exact hd_18)), if_neg (fun z => hp.1 (by rw [z]; exact hd_19)), if_neg hp.2.1, e, if_neg (by omega), Int.toNat_natCast]
  unfold skS
  rw [List.flatMap_cons, s]
  rfl
theorem sk_ld {V : List ND} (hV : SDC V) : ∀ (ws : List (List Int)) (n : Nat) (c : List ND) (o : Nat), n < V.length → (∀ w ∈ ws, PWd w) → ldP ws (sg V n) c o → skW V ws [n] = [n + o]
  | [], n, c, o, hn, hw, h => by
    obtain ⟨h1, h2⟩ := h
    subst h2
    rfl
  | w :: ws, n, c, o, hn, hw, h => by
    obtain ⟨A, e, B, j, hk, hi, hl, ho⟩ := h
    have hs := sdc_sg _ V (Nat.le_refl _) hV n hn
    have st := stp_kid hV.1 hn hk (sdc_nd hs) hi
    obtain ⟨K1, K2, k1, k2, k3, k4, k5⟩ := kd_num hV.1 hn hk
    rw [← k3] at hl
    have a := sk_ld hV ws (n + 1 + A.flatten.length) c j k5 (fun v hv => hw v (List.mem_cons_of_mem _ hv)) hl
    show skW V ws (skS V w [n]) = _
    rw [sk_one (hw w List.mem_cons_self) st hn, a, show n + 1 + A.flatten.length + j = n + o by omega]
/-- KEYS are letters -/
abbrev LKy (V : List ND) : Prop := ∀ x ∈ V, x.2.2.2.2 = [] ∨ ∃ c : Int, 97 ≤ c ∧ c ≤ 101 ∧ x.2.2.2.2 = [c]
theorem ptF_0 {V : List ND} : pth V 0 = [] := rfl
/-- a PATH is made of parts that lead there -/
theorem pth_ld {V : List ND} (hV : SDC V) (hl : V.length ≤ 100) (hK : LKy V) : ∀ (n i : Nat), i ≤ n → i < V.length → ∃ ss : List (List Int), pth V i = txt ss ∧ (∀ s ∈ ss, sgOK s) ∧ (∀ s ∈ ss, PWd (une s)) ∧ (∀ s ∈ ss, ∀ x ∈ s, 48 ≤ x ∧ x ≤ 101) ∧ ldP (ss.map une) V (sg V i) i
  | n, 0, _, hi => ⟨[], rfl, fun s hs => (by cases hs), fun s hs => (by cases hs), fun s hs => (by cases hs), (by rw [sg_self hV.1.1]; exact ⟨rfl, rfl⟩)⟩
  | 0, i + 1, h, hi => by omega
  | n + 1, i + 1, h, hi => by
    have hz := pz_l hV.1.2
    have hw := hV.1.1.1
    obtain ⟨o, ow, o1, o2, ok, o4⟩ := own_kid hV.1 (i := i + 1) (by omega) hi
    have ol : o < V.length := by omega
    obtain ⟨ss, p1, p2, p3, p4, p5⟩ := pth_ld hV hl hK n o (by omega) ol
    have up := pth_up hV.1 (i := i + 1) (by omega) hi ow
    obtain ⟨K1, K2, kk⟩ := List.append_of_mem ok
    have own := kid_own hw hz kk
    have sp := ks_split hw hz (hw.1 o ol) K1 (o + 1) (i + 1) K2 kk
    have kd_ := kd_sg hV.1.2 hw ol
    rw [kk, List.map_append, List.map_cons] at kd_
    have rk_ : rk (sg V o) = nk V o := rk_sg ol (hz o)
    have kl : (kids V o).length ≤ 100 := kids_100 hw hz hl ol
    have lK : K1.length < 100 := by
      rw [kk, List.length_append, List.length_cons] at kl
      omega
    have k45 : nk V o = 4 ∨ nk V o = 5 := by
      have nr := (hV.2.1 _ (nd_mem ol)).1
      have : nk V o ≤ 5 := nr.2.1
      omega
    have key : ∃ s : List Int, stp V (i + 1) = 47 :: s ∧ sgOK s ∧ PWd (une s) ∧ (∀ x ∈ s, 48 ≤ x ∧ x ≤ 101) ∧ isK (sg V o) (K1.map (sg V)) (sg V (i + 1)) (une s) := by
      rcases k45 with k4 | k5
      · refine ⟨wnum (K1.length : Int), ?_, num_seg lK, ?_, fun x hx => by have := num_fg lK x hx; omega, Or.inr ⟨by omega, ?_⟩⟩
        · unfold stp
          rw [ow, kdI_n ol, if_neg (by omega), own.2, show max (0 : Int) (K1.length : Int) = (K1.length : Int) by omega]
          rfl
        · rw [une_num lK]
          have h0 : ∀ {r : List Int}, fgR r → r ≠ [] → PWd r := fun {r} hr hn => by
            cases r with
            | nil => exact absurd rfl hn
            | cons y r =>
              have := hr y List.mem_cons_self
              show y ≠ 42 ∧ y ≠ 63 ∧ y ≠ 45
              omega
          refine h0 (num_fg lK) (fun z => ?_)
          have := num_ok K1.length lK
          rw [z] at this
          have e : plN [] = -1 := by decide
          omega
        · rw [une_num lK, num_ok K1.length lK, List.length_map]
      · have st := (stp_mpc hV.1 ol k5 ok).1
        have ne : nq V (i + 1) ≠ [] ∨ nq V (i + 1) = [] := by
          by_cases z : nq V (i + 1) = []
          · exact Or.inr z
          · exact Or.inl z
        have rq_ : rq (sg V (i + 1)) = nq V (i + 1) := rq_sg hi (hz _)
        have u : une (kyS (sg V (i + 1))) = nq V (i + 1) := by rw [une_ky, rq_]
        have kx := hK _ (nd_mem hi)
        have kx : nq V (i + 1) = [] ∨ ∃ c : Int, 97 ≤ c ∧ c ≤ 101 ∧ nq V (i + 1) = [c] := kx
        refine ⟨_, st, ky_seg, ?_, ?_, Or.inl ⟨by omega, by rw [u, rq_]⟩⟩
        · rw [u]
          rcases kx with z | ⟨c, c1, c2, z⟩
          · rw [z]; decide
          · rw [z]
            show c ≠ 42 ∧ c ≠ 63 ∧ c ≠ 45
            omega
        · unfold kyS
          rw [rq_]
          rcases kx with z | ⟨c, c1, c2, z⟩
          · rw [z]
            intro x hx
            cases hx
          · rw [z]
            intro x hx
            have e : ([c] : List Int).flatMap esc = [c] := by
              show esc c ++ [] = [c]
              unfold esc
              rw [if_neg (by omega), if_neg (by omega)]
              rfl
            rw [e] at hx
            simp only [List.mem_cons, List.not_mem_nil, or_false] at hx
            omega
    obtain ⟨s, s1, s2, s3, s4, s5⟩ := key
    refine ⟨ss ++ [s], ?_, fun v hv => ?_, fun v hv => ?_, fun v hv => ?_, ?_⟩
    · rw [up, s1, p1, txt_snoc]
    · rcases List.mem_append.mp hv with z | z
      · exact p2 v z
      · simp only [List.mem_cons, List.not_mem_nil, or_false] at z
        rw [z]; exact s2
    · rcases List.mem_append.mp hv with z | z
      · exact p3 v z
      · simp only [List.mem_cons, List.not_mem_nil, or_false] at z
        rw [z]; exact s3
    · rcases List.mem_append.mp hv with z | z
      · exact p4 v z
      · simp only [List.mem_cons, List.not_mem_nil, or_false] at z
        rw [z]; exact s4
    · rw [List.map_append]
      have sn := ld_snoc _ V (sg V o) o p5 kd_ s5
      rw [show o + (1 + (K1.map (sg V)).flatten.length) = i + 1 by omega] at sn
      exact sn
theorem txt_rng : ∀ (ss : List (List Int)), (∀ s ∈ ss, ∀ x ∈ s, 48 ≤ x ∧ x ≤ 101) → ∀ x ∈ txt ss, 47 ≤ x ∧ x ≤ 101 := fun ss h x hx => by
  obtain ⟨s, hs, hx⟩ := List.mem_flatMap.mp hx
  rcases List.mem_cons.mp hx with z | z
  · omega
  · have := h s hs x z; omega
/-- all that the law says of a PATH -/
theorem path_ok {V : List ND} (hV : DOC V) (hK : LKy V) {i : Nat} (hi : i < V.length) : isP (pth V i) ∧ seekL (pth V i) V = [i] ∧ ∀ x ∈ pth V i, 47 ≤ x ∧ x ≤ 101 := by
  obtain ⟨ss, p1, p2, p3, p4, p5⟩ := pth_ld hV.1 hV.2.2.1 hK i i (Nat.le_refl _) hi
  obtain ⟨t1, t2⟩ := txt_ok _ ss rfl p2
  rw [p1]
  refine ⟨t1, ?_, txt_rng ss p4⟩
  rw [seek_W, t2]
  have s0 : sg V 0 = V := sg_self hV.1.1.1
  have := sk_ld hV.1 (ss.map une) 0 (sg V i) i (by omega) (fun w hw => by
    obtain ⟨s, hs, rfl⟩ := List.mem_map.mp hw
    exact p3 s hs) (by rw [s0]; exact p5)
  rw [this, Nat.zero_add]
