/-! p37: WORDS lead from VALUE to VALUE -/
/-- a VALUE of a group that a WORD names; what is ahead of it -/
abbrev isK (T : List ND) (A : List (List ND)) (e : List ND) (w : List Int) : Prop := (rk T = 5 ∧ rq e = w) ∨ (rk T = 4 ∧ plN w = (A.length : Int))
/-- WORDS lead to a piece, at a NODE -/
def ldP : List (List Int) → List ND → List ND → Nat → Prop
  | [], T, c, o => c = T ∧ o = 0
  | w :: ws, T, c, o => ∃ (A : List (List ND)) (e : List ND) (B : List (List ND)) (j : Nat), kd T = A ++ e :: B ∧ isK T A e w ∧ ldP ws e c j ∧ o = 1 + A.flatten.length + j
/-- what is at the end of WORDS changes -/
def atR (h : List ND → List ND → Prop) : List (List Int) → List ND → List ND → Prop
  | [], T, U => h T U
  | w :: ws, T, U => ∃ (A : List (List ND)) (e e1 : List ND) (B : List (List ND)), kd T = A ++ e :: B ∧ isK T A e w ∧ atR h ws e e1 ∧ U = gpN (T.getD 0 nd0) (A ++ e1 :: B) (A ++ e1 :: B).length
/-- by numbers of NODES -/
def nwF (V : List ND) : List (List Int) → Int → Int
  | [], n => n
  | w :: ws, n => if n = -1 then -1 else nwF V ws (stpT V n w)
theorem fdK_hit {V : List ND} {w : List Int} {k : Nat} {K2 : List Nat} (hk : nq V k = w) : ∀ (K1 : List Nat), (∀ x ∈ K1, nq V x ≠ w) → fdK V w (K1 ++ k :: K2) = (k : Int)
  | [], _ => if_pos hk
  | x :: K1, h => by
    rw [List.cons_append]
    unfold fdK
    rw [if_neg (h x List.mem_cons_self)]
    exact fdK_hit hk K1 (fun y hy => h y (List.mem_cons_of_mem _ hy))
theorem fdK_miss {V : List ND} {w : List Int} : ∀ (K : List Nat), (∀ x ∈ K, nq V x ≠ w) → fdK V w K = -1
  | [], _ => rfl
  | x :: K, h => by
    unfold fdK
    rw [if_neg (h x List.mem_cons_self)]
    exact fdK_miss K (fun y hy => h y (List.mem_cons_of_mem _ hy))
/-- VALUES of a NODE, by numbers -/
theorem kd_num {V : List ND} (hV : TR V ∧ PZL V) {n : Nat} (hn : n < V.length) {A B : List (List ND)} {e : List ND} (hk : kd (sg V n) = A ++ e :: B) : ∃ K1 K2, kids V n = K1 ++ (n + 1 + A.flatten.length) :: K2 ∧ K1.map (sg V) = A ∧ sg V (n + 1 + A.flatten.length) = e ∧ K2.map (sg V) = B ∧ n + 1 + A.flatten.length < V.length := by
  have hw := hV.1.1
  have hz := pz_l hV.2
  rw [kd_sg hV.2 hw hn] at hk
  obtain ⟨K1, L, e1, e2, e3⟩ := List.map_eq_append_iff.mp hk
  obtain ⟨k, K2, e4, e5, e6⟩ := List.map_eq_cons_iff.mp e3
  subst e4
  have s := ks_split hw hz (hw.1 n hn) K1 (n + 1) k K2 e1
  rw [e2] at s
  have ek : n + 1 + A.flatten.length = k := by omega
  have hin : k ∈ kids V n := by rw [e1]; exact List.mem_append_right _ List.mem_cons_self
  rw [ek]
  exact ⟨K1, K2, e1, e2, e5, e6, kids_in hw hz hn hin⟩
/-- KEYS of a MAP are none twice -/
abbrev NdK (T : List ND) : Prop := rk T = 5 → ((kd T).map rq).Nodup
theorem nod_ne {A B : List (List ND)} {e : List ND} (h : ((A ++ e :: B).map rq).Nodup) : (∀ t ∈ A, rq t ≠ rq e) ∧ ∀ t ∈ B, rq t ≠ rq e := by
  rw [List.map_append, List.map_cons, List.nodup_append] at h
  obtain ⟨_, h2, h3⟩ := h
  refine ⟨fun t ht z => h3 (rq t) (List.mem_map_of_mem ht) (rq e) List.mem_cons_self z, fun t ht z => ?_⟩
  rw [List.nodup_cons] at h2
  exact h2.1 (z ▸ List.mem_map_of_mem ht)
theorem sdc_nd {T : List ND} (h : SDC T) : NdK T := (h.2.2 1).1
theorem stp_kid {V : List ND} (hV : TR V ∧ PZL V) {n : Nat} (hn : n < V.length) {A B : List (List ND)} {e : List ND} {w : List Int} (hk : kd (sg V n) = A ++ e :: B) (hu : NdK (sg V n)) (hi : isK (sg V n) A e w) : stpT V (n : Int) w = ((n + 1 + A.flatten.length : Nat) : Int) := by
  obtain ⟨K1, K2, k1, k2, k3, k4, k5⟩ := kd_num hV hn hk
  have hz := pz_l hV.2
  have rn : rk (sg V n) = nk V n := rk_sg hn (hz n)
  unfold stpT
  rw [kdI_n hn]
  rcases hi with ⟨r5, hq⟩ | ⟨r4, hp⟩
  · rw [if_neg (by omega), vLk_n hn, if_pos (by omega), k1]
    refine fdK_hit ?_ K1 (fun x hx => ?_)
    · rw [← rq_sg k5 (hz _), k3]; exact hq
    · have hx' : x < V.length := kids_in hV.1.1 hz hn (by rw [k1]; exact List.mem_append_left _ hx)
      have nd := hu r5
      rw [hk] at nd
      have := (nod_ne nd).1 (sg V x) (by rw [← k2]; exact List.mem_map_of_mem hx)
      rw [rq_sg hx' (hz _), hq] at this
      exact this
  · have l1 : K1.length = A.length := by rw [← k2, List.length_map]
    rw [if_pos (by omega), Int.toNat_natCast, k1, hp, atK_in _ _ (by omega) (by simp; omega), Int.toNat_natCast, ← l1]
    rw [List.getD_eq_getElem?_getD, List.getElem?_append_right (Nat.le_refl _)]
    simp
/-- WORDS lead to the NODE -/
theorem nw_ld {V : List ND} (hV : SDC V) : ∀ (ws : List (List Int)) (n : Nat) (c : List ND) (o : Nat), n < V.length → ldP ws (sg V n) c o → nwF V ws (n : Int) = ((n + o : Nat) : Int) ∧ n + o < V.length ∧ sg V (n + o) = c
  | [], n, c, o, hn, h => by
    obtain ⟨h1, h2⟩ := h
    subst h2
    exact ⟨rfl, hn, h1.symm⟩
  | w :: ws, n, c, o, hn, h => by
    obtain ⟨A, e, B, j, hk, hi, hl, ho⟩ := h
    have hs := sdc_sg _ V (Nat.le_refl _) hV n hn
    have st := stp_kid hV.1 hn hk (sdc_nd hs) hi
    obtain ⟨K1, K2, k1, k2, k3, k4, k5⟩ := kd_num hV.1 hn hk
    rw [← k3] at hl
    obtain ⟨a1, a2, a3⟩ := nw_ld hV ws (n + 1 + A.flatten.length) c j k5 hl
    have en : n + o = n + 1 + A.flatten.length + j := by omega
    rw [en]
    refine ⟨?_, a2, a3⟩
    show (if (n : Int) = -1 then -1 else nwF V ws (stpT V (n : Int) w)) = _
    rw [if_neg (by omega), st]
    exact a1
theorem flat3_len {A B : List (List ND)} {e : List ND} : (A ++ e :: B).flatten.length = A.flatten.length + e.length + B.flatten.length := by
  rw [List.flatten_append, List.flatten_cons, List.length_append, List.length_append]
  omega
theorem kd_len {T : List ND} (h : TR T ∧ PZL T) : T.length = (kd T).flatten.length + 1 := by
  have e := congrArg List.length (kd_flat h.2 h.1.2.1)
  rw [List.length_cons] at e
  exact e
theorem kd_ok {T : List ND} (h : TR T ∧ PZL T) {A B : List (List ND)} {e : List ND} (hk : kd T = A ++ e :: B) : (TR e ∧ PZL e) ∧ (∀ t ∈ A ++ e :: B, TR t ∧ PZL t) ∧ T.length = 1 + A.flatten.length + e.length + B.flatten.length := by
  have k := kd_tr h.1 h.2
  rw [hk] at k
  have l := kd_len h
  rw [hk, flat3_len] at l
  exact ⟨k e (List.mem_append_right _ List.mem_cons_self), k, by omega⟩
theorem ld_lt : ∀ (ws : List (List Int)) (T c : List ND) (o : Nat), TR T ∧ PZL T → ldP ws T c o → o < T.length ∧ (TR c ∧ PZL c)
  | [], T, c, o, hT, h => by
    obtain ⟨h1, h2⟩ := h
    subst h1 h2
    exact ⟨hT.1.2.1, hT⟩
  | w :: ws, T, c, o, hT, h => by
    obtain ⟨A, e, B, j, hk, hi, hl, ho⟩ := h
    obtain ⟨he, -, l⟩ := kd_ok hT hk
    obtain ⟨a, b⟩ := ld_lt ws e c j he hl
    exact ⟨by omega, b⟩
/-- a change at the NODE is a change at the end of WORDS -/
theorem upd_at {h : List ND → List ND} : ∀ (ws : List (List Int)) (f : Nat) (T c : List ND) (o : Nat), T.length ≤ f → TR T ∧ PZL T → ldP ws T c o → atR (fun x y => y = h x) ws T (updF h f T o)
  | [], f, T, c, o, hf, hT, hl => by
    obtain ⟨_, h2⟩ := hl
    subst h2
    show updF h f T 0 = h T
    rw [updF_0]
  | w :: ws, 0, T, c, o, hf, hT, hl => by
    have := hT.1.2.1
    omega
  | w :: ws, f + 1, T, c, o, hf, hT, hl => by
    obtain ⟨A, e, B, j, hk, hi, hl, ho⟩ := hl
    obtain ⟨he, ha, l⟩ := kd_ok hT hk
    have jl := (ld_lt ws e c j he hl).1
    obtain ⟨A', c', B', e1, e2, e3, e4, e5, e6, e7⟩ := upd_step (h := h) (f := f) hT (i := A.flatten.length + j) (by omega)
    obtain ⟨rfl, rfl, rfl⟩ := split_eq (i := A.flatten.length + j) (fun t ht => (ha t ht).1.2.1) (hk.symm.trans e1) (by omega) (by omega) e2 e3
    rw [show A'.flatten.length + j - A'.flatten.length = j by omega] at e5
    rw [ho, show 1 + A'.flatten.length + j = A'.flatten.length + j + 1 by omega, e5]
    exact ⟨_, _, _, _, hk, hi, upd_at ws f _ _ _ (by omega) he hl, rfl⟩
/-- a WORD names one VALUE alone -/
theorem isK_one {T : List ND} {A A' B B' : List (List ND)} {e e' : List ND} {w : List Int} (hu : NdK T) (h1 : kd T = A ++ e :: B) (h2 : kd T = A' ++ e' :: B') (i1 : isK T A e w) (i2 : isK T A' e' w) : A' = A ∧ e' = e ∧ B' = B := by
  have he : A ++ e :: B = A' ++ e' :: B' := h1.symm.trans h2
  have fin : A.length = A'.length → A' = A ∧ e' = e ∧ B' = B := fun l => by
    obtain ⟨a, b⟩ := List.append_inj he l
    obtain ⟨c, d⟩ := List.cons.inj b
    exact ⟨a.symm, c.symm, d.symm⟩
  rcases i1 with ⟨r5, q1⟩ | ⟨r4, p1⟩
  · rcases i2 with ⟨_, q2⟩ | ⟨z, _⟩
    · have nd := hu r5
      have n1 := nod_ne (by rw [h1] at nd; exact nd)
      have n2 := nod_ne (by rw [h2] at nd; exact nd)
      by_cases c1 : A.length = A'.length
      · exact fin c1
      · exfalso
        by_cases c2 : A.length < A'.length
        · have : e ∈ A' := by
            have g : (A ++ e :: B)[A.length]? = some e := by rw [List.getElem?_append_right (Nat.le_refl _)]; simp
            rw [he, List.getElem?_append_left c2] at g
            exact List.mem_of_getElem? g
          exact n2.1 e this (q1.trans q2.symm)
        · have : e' ∈ A := by
            have g : (A' ++ e' :: B')[A'.length]? = some e' := by rw [List.getElem?_append_right (Nat.le_refl _)]; simp
            rw [← he, List.getElem?_append_left (by omega)] at g
            exact List.mem_of_getElem? g
          exact n1.1 e' this (q2.trans q1.symm)
    · omega
  · rcases i2 with ⟨z, _⟩ | ⟨_, p2⟩
    · omega
    · exact fin (by omega)
theorem atR_one {h : List ND → List ND → Prop} (hf : ∀ x y z, SDC x → h x y → h x z → y = z) : ∀ (ws : List (List Int)) (T U W : List ND), SDC T → atR h ws T U → atR h ws T W → U = W
  | [], T, U, W, hT, a, b => hf T U W hT a b
  | w :: ws, T, U, W, hT, a, b => by
    obtain ⟨A, e, e1, B, k1, i1, a1, rfl⟩ := a
    obtain ⟨A', e', e1', B', k2, i2, a2, rfl⟩ := b
    obtain ⟨rfl, rfl, rfl⟩ := isK_one (sdc_nd hT) k1 k2 i1 i2
    rw [atR_one hf ws e' e1 e1' (sdc_kd hT (by rw [k1]; exact List.mem_append_right _ List.mem_cons_self)) a1 a2]
theorem atR_mono {h g : List ND → List ND → Prop} (hg : ∀ x y, h x y → g x y) : ∀ (ws : List (List Int)) (T U : List ND), atR h ws T U → atR g ws T U
  | [], T, U, a => hg T U a
  | w :: ws, T, U, a => by
    obtain ⟨A, e, e1, B, k1, i1, a1, rfl⟩ := a
    exact ⟨A, e, e1, B, k1, i1, atR_mono hg ws e e1 a1, rfl⟩
/-- what is changed is at the end of the WORDS -/
theorem atR_ld {h : List ND → List ND → Prop} : ∀ (ws : List (List Int)) (T U : List ND), atR h ws T U → ∃ c c1 o, ldP ws T c o ∧ h c c1
  | [], T, U, a => ⟨T, U, 0, ⟨rfl, rfl⟩, a⟩
  | w :: ws, T, U, a => by
    obtain ⟨A, e, e1, B, k1, i1, a1, rfl⟩ := a
    obtain ⟨c, c1, o, l, z⟩ := atR_ld ws e e1 a1
    exact ⟨c, c1, 1 + A.flatten.length + o, ⟨A, e, B, o, k1, i1, l, rfl⟩, z⟩
