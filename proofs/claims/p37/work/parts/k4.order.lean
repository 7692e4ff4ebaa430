/-! KEYS in order: all come, once each -/
theorem oK_sym : ∀ (a b : List Int), oK b a = - oK a b
  | [], [] => rfl
  | [], _ :: _ => rfl
  | _ :: _, [] => rfl
  | x :: a, y :: b => by
    unfold oK
    by_cases c : x = y
    · rw [if_pos c, if_pos c.symm]; exact oK_sym a b
    · rw [if_neg c, if_neg (fun e => c e.symm)]
      by_cases c2 : x < y
      · rw [if_pos c2, if_neg (by omega)]; rfl
      · rw [if_neg c2, if_pos (by omega)]
theorem oK_tr : ∀ (a b c : List Int), oK a b < 0 → oK b c < 0 → oK a c < 0
  | [], [], c, h, _ => by simp [oK] at h
  | [], y :: b, [], _, h => by simp [oK] at h
  | [], y :: b, z :: c, _, _ => by simp [oK]
  | x :: a, [], c, h, _ => by simp [oK] at h
  | x :: a, y :: b, [], _, h => by simp [oK] at h
  | x :: a, y :: b, z :: c, h1, h2 => by
    unfold oK at h1 h2 ⊢
    by_cases c1 : x = y
    · rw [if_pos c1] at h1
      by_cases c2 : y = z
      · rw [if_pos c2] at h2
        rw [if_pos (c1.trans c2)]
        exact oK_tr a b c h1 h2
      · rw [if_neg c2] at h2
        rw [if_neg (by omega)]
        split at h2
        · rw [if_pos (by omega)]; omega
        · omega
    · rw [if_neg c1] at h1
      split at h1
      · by_cases c2 : y = z
        · rw [if_neg (by omega), if_pos (by omega)]; omega
        · rw [if_neg c2] at h2
          split at h2
          · rw [if_neg (by omega), if_pos (by omega)]; omega
          · omega
      · omega
theorem oK_ge {a b : List Int} (h : ¬ oK a b < 0) (hn : a ≠ b) : oK b a < 0 := by
  have s := oK_sym a b
  have r := oK_r a b
  have z := (oK_0 (a := a) (b := b))
  rcases r with r | r | r
  · omega
  · exact absurd (z.mp r) hn
  · omega
/-- behind a KEY -/
def gtK (lk : Option (List Int)) (t : List ND) : Prop := ∀ q, lk = some q → 0 < oK (rq t) q
theorem lsS_some {lk : Option (List Int)} {t : List ND} : ∀ (L : List (List ND)) (b : Option (List ND)), lsS lk b L = some t → (b = some t ∨ (t ∈ L ∧ gtK lk t)) ∧ (∀ u, b = some u → u = t ∨ oK (rq t) (rq u) < 0) ∧ ∀ u ∈ L, gtK lk u → ¬ oK (rq u) (rq t) < 0
  | [], b, h => by
    unfold lsS at h
    refine ⟨Or.inl h, fun u e => ?_, fun u hu => by cases hu⟩
    rw [h] at e
    exact Or.inl (Option.some.inj e).symm
  | x :: L, b, h => by
    unfold lsS at h
    by_cases c : (∀ q, lk = some q → 0 < oK (rq x) q) ∧ (∀ u, b = some u → oK (rq x) (rq u) < 0)
    · rw [if_pos c] at h
      obtain ⟨a1, a2, a3⟩ := lsS_some L (some x) h
      have a2 := a2 x rfl
      refine ⟨?_, fun u e => ?_, fun u hu hg => ?_⟩
      · rcases a1 with z | z
        · rw [← Option.some.inj z]
          exact Or.inr ⟨List.mem_cons_self, c.1⟩
        · exact Or.inr ⟨List.mem_cons_of_mem _ z.1, z.2⟩
      · have := c.2 u e
        rcases a2 with z | z
        · rw [← z]; exact Or.inr this
        · exact Or.inr (oK_tr _ _ _ z this)
      · rcases List.mem_cons.mp hu with z | z
        · subst z
          rcases a2 with y | y
          · rw [y, oK_0.mpr rfl]; omega
          · have := oK_sym (rq t) (rq u); omega
        · exact a3 u z hg
    · rw [if_neg c] at h
      obtain ⟨a1, a2, a3⟩ := lsS_some L b h
      refine ⟨?_, a2, fun u hu hg => ?_⟩
      · rcases a1 with z | z
        · exact Or.inl z
        · exact Or.inr ⟨List.mem_cons_of_mem _ z.1, z.2⟩
      · rcases List.mem_cons.mp hu with z | z
        · subst z
          intro w
          refine c ⟨hg, fun v hv => ?_⟩
          rcases a2 v hv with y | y
          · rw [y]; exact w
          · exact oK_tr _ _ _ w y
        · exact a3 u z hg
theorem lsS_nomem {lk : Option (List Int)} : ∀ (L : List (List ND)) (b : Option (List ND)), lsS lk b L = none → b = none ∧ ∀ u ∈ L, ¬ gtK lk u
  | [], b, h => ⟨h, fun u hu => by cases hu⟩
  | x :: L, b, h => by
    unfold lsS at h
    by_cases c : (∀ q, lk = some q → 0 < oK (rq x) q) ∧ (∀ u, b = some u → oK (rq x) (rq u) < 0)
    · rw [if_pos c] at h
      have := (lsS_nomem L (some x) h).1
      cases this
    · rw [if_neg c] at h
      obtain ⟨a1, a2⟩ := lsS_nomem L b h
      refine ⟨a1, fun u hu hg => ?_⟩
      rcases List.mem_cons.mp hu with z | z
      · subst z
        exact c ⟨hg, fun v hv => by rw [a1] at hv; cases hv⟩
      · exact a2 u z hg
/-- how many stand behind a KEY -/
def cgt (lk : Option (List Int)) : List (List ND) → Nat
  | [] => 0
  | t :: L => (if (∀ q, lk = some q → 0 < oK (rq t) q) then 1 else 0) + cgt lk L
theorem cgt_le {lk : Option (List Int)} : ∀ (L : List (List ND)), cgt lk L ≤ L.length
  | [] => Nat.le_refl _
  | t :: L => by
    have := cgt_le (lk := lk) L
    unfold cgt
    rw [List.length_cons]
    split <;> omega
theorem cgt_lt {lk lk2 : Option (List Int)} {t : List ND} (h : ∀ u, gtK lk2 u → gtK lk u) (ht : gtK lk t ∧ ¬ gtK lk2 t) : ∀ (L : List (List ND)), cgt lk2 L ≤ cgt lk L ∧ (t ∈ L → cgt lk2 L < cgt lk L)
  | [] => ⟨Nat.le_refl _, fun z => by cases z⟩
  | u :: L => by
    have ih := cgt_lt h ht L
    unfold cgt
    have hu := h u
    unfold gtK at hu ht
    refine ⟨?_, fun z => ?_⟩
    · by_cases c : ∀ q, lk2 = some q → 0 < oK (rq u) q
      · rw [if_pos c, if_pos (hu c)]; omega
      · rw [if_neg c]; omega
    · rcases List.mem_cons.mp z with y | y
      · subst y
        rw [if_pos ht.1, if_neg ht.2]; omega
      · have := ih.2 y
        by_cases c : ∀ q, lk2 = some q → 0 < oK (rq u) q
        · rw [if_pos c, if_pos (hu c)]; omega
        · rw [if_neg c]; omega
theorem cgt_0 {lk : Option (List Int)} : ∀ (L : List (List ND)), cgt lk L = 0 → ∀ u ∈ L, ¬ gtK lk u
  | [], _ => fun u hu => by cases hu
  | t :: L, h => by
    unfold cgt at h
    intro u hu
    rcases List.mem_cons.mp hu with y | y
    · subst y
      intro hg
      unfold gtK at hg
      rw [if_pos hg] at h
      omega
    · exact cgt_0 L (by omega) u y
section OBS
variable {L : List (List ND)}
theorem gtK_next {lk : Option (List Int)} {t : List ND} (ht : gtK lk t) : (∀ u, gtK (some (rq t)) u → gtK lk u) ∧ ¬ gtK (some (rq t)) t := by
  refine ⟨fun u hu q hq => ?_, fun h => ?_⟩
  · have a := hu (rq t) rfl
    have b := ht q hq
    have s1 := oK_sym (rq u) (rq t)
    have s2 := oK_sym (rq t) q
    have := oK_tr q (rq t) (rq u) (by omega) (by omega)
    have s3 := oK_sym (rq u) q
    omega
  · have := h (rq t) rfl
    rw [oK_0.mpr rfl] at this
    omega
theorem obS_mem : ∀ (f : Nat) (lk : Option (List Int)), ∀ u ∈ obS f lk L, u ∈ L ∧ gtK lk u
  | 0, lk => fun u hu => by cases hu
  | f + 1, lk => by
    intro u hu
    unfold obS at hu
    cases e : lsS lk none L with
    | none => rw [e] at hu; cases hu
    | some t =>
      rw [e] at hu
      have s := lsS_some L none e
      have st : t ∈ L ∧ gtK lk t := by
        rcases s.1 with z | z
        · cases z
        · exact z
      rcases List.mem_cons.mp hu with z | z
      · subst z; exact st
      · have := obS_mem f (some (rq t)) u z
        exact ⟨this.1, (gtK_next st.2).1 u this.2⟩
theorem obS_sorted : ∀ (f : Nat) (lk : Option (List Int)), (obS f lk L).Pairwise (fun a b => oK (rq a) (rq b) < 0)
  | 0, lk => List.Pairwise.nil
  | f + 1, lk => by
    unfold obS
    cases e : lsS lk none L with
    | none => exact List.Pairwise.nil
    | some t =>
      refine List.Pairwise.cons (fun u hu => ?_) (obS_sorted f (some (rq t)))
      have := (obS_mem f (some (rq t)) u hu).2 (rq t) rfl
      have s := oK_sym (rq u) (rq t)
      omega
theorem obS_all (hk : ∀ a ∈ L, ∀ b ∈ L, rq a = rq b → a = b) : ∀ (f : Nat) (lk : Option (List Int)), cgt lk L ≤ f → ∀ u ∈ L, gtK lk u → u ∈ obS f lk L
  | 0, lk, hf, u, hu, hg => absurd hg (cgt_0 L (by omega) u hu)
  | f + 1, lk, hf, u, hu, hg => by
    unfold obS
    cases e : lsS lk none L with
    | none => exact absurd hg ((lsS_nomem L none e).2 u hu)
    | some t =>
      have s := lsS_some L none e
      have st : t ∈ L ∧ gtK lk t := by
        rcases s.1 with z | z
        · cases z
        · exact z
      have nx := gtK_next st.2
      have m := (cgt_lt nx.1 ⟨st.2, nx.2⟩ L).2 st.1
      by_cases c : u = t
      · rw [c]; exact List.mem_cons_self
      · refine List.mem_cons_of_mem _ (obS_all hk f (some (rq t)) (by omega) u hu (fun q hq => ?_))
        cases hq
        have a := s.2.2 u hu hg
        have := oK_ge a (fun e => c (hk u hu t st.1 e))
        have s1 := oK_sym (rq t) (rq u)
        omega
theorem nodup_inj (h : (L.map rq).Nodup) : ∀ a ∈ L, ∀ b ∈ L, rq a = rq b → a = b := by
  induction L with
  | nil => intro a ha; cases ha
  | cons x L ih =>
    rw [List.map_cons, List.nodup_cons] at h
    intro a ha b hb e
    rcases List.mem_cons.mp ha with z | z
    · rcases List.mem_cons.mp hb with y | y
      · rw [z, y]
      · subst z
        exact absurd (List.mem_map.mpr ⟨b, y, e.symm⟩) h.1
    · rcases List.mem_cons.mp hb with y | y
      · subst y
        exact absurd (List.mem_map.mpr ⟨a, z, e⟩) h.1
      · exact ih h.2 a z b y e
theorem nodup_of_map (h : (L.map rq).Nodup) : L.Nodup := by
  induction L with
  | nil => exact List.nodup_nil
  | cons x L ih =>
    rw [List.map_cons, List.nodup_cons] at h
    exact List.nodup_cons.mpr ⟨fun m => h.1 (List.mem_map.mpr ⟨x, m, rfl⟩), ih h.2⟩
theorem obS_nodup (f : Nat) (lk : Option (List Int)) : (obS f lk L).Nodup := (obS_sorted f lk).imp (fun {a b} h e => by rw [e, oK_0.mpr rfl] at h; omega)
/-- by KEYS: the same pieces, in another order -/
theorem obS_perm (h : (L.map rq).Nodup) (hl : L.length ≤ 100) : (obS 100 none L).Perm L := by
  refine (List.perm_ext_iff_of_nodup (obS_nodup 100 none) (nodup_of_map h)).mpr (fun u => ⟨fun hu => (obS_mem 100 none u hu).1, fun hu => ?_⟩)
  exact obS_all (nodup_inj h) 100 none (Nat.le_trans (cgt_le L) hl) u hu (fun q hq => by cases hq)
end OBS
theorem koS_perm {w : Int} {T : List ND} (h : SDC T) (hl : T.length ≤ 100) : (koS w T).Perm (kd T) := by
  unfold koS
  split
  · rename_i c
    refine obS_perm ((h.2.2 1).1 c.1) ?_
    have e := congrArg List.length (kd_flat h.1.2 h.1.1.2.1)
    rw [List.length_cons] at e
    have : ∀ (E : List (List ND)), (∀ t ∈ E, 1 ≤ t.length) → E.length ≤ E.flatten.length := by
      intro E
      induction E with
      | nil => intro _; exact Nat.le_refl _
      | cons t E ih =>
        intro hE
        have a := hE t List.mem_cons_self
        have b := ih (fun u hu => hE u (List.mem_cons_of_mem _ hu))
        rw [List.length_cons, List.flatten_cons, List.length_append]
        omega
    have := this (kd T) (fun t ht => (kd_tr h.1.1 h.1.2 t ht).1.2.1)
    omega
  · exact List.Perm.refl _
