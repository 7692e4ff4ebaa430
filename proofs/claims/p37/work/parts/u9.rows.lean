/-! p37: the PATCH of two ROWS leads from the one to the other -/
theorem num_ok : ∀ k, k < 100 → plN (wnum ((k : Nat) : Int)) = (k : Int) := by decide +kernel
theorem num_fg {k : Nat} (hk : k < 100) : fgR (wnum (k : Int)) := by
  have e := num_ok k hk
  have := (plN_num (w := wnum (k : Int)) (by rw [e]; omega)).2
  exact this
/-- the VALUES of some places -/
def selP (E : List (List ND)) (M : List Nat) : Nat → Nat → List (List ND)
  | 0, _ => []
  | f + 1, k => (if k ∈ M then [E.getD k []] else []) ++ selP E M f (k + 1)
theorem drop_k {E : List (List ND)} {k : Nat} (h : k < E.length) : E.drop k = E.getD k [] :: E.drop (k + 1) := by
  rw [List.drop_eq_getElem_cons h, List.getD_eq_getElem?_getD, List.getElem?_eq_getElem h]
  rfl
theorem sel_len {E : List (List ND)} {M : List Nat} : ∀ (f k : Nat), k + f = E.length → (selP E M f k).flatten.length ≤ (E.drop k).flatten.length
  | 0, k, _ => Nat.zero_le _
  | f + 1, k, h => by
    have i := sel_len (E := E) (M := M) f (k + 1) (by omega)
    rw [drop_k (E := E) (k := k) (by omega), flat_con]
    show ((if k ∈ M then [E.getD k []] else []) ++ selP E M f (k + 1)).flatten.length ≤ _
    rw [flat_app]
    split
    · rw [flat_one]; omega
    · show 0 + _ ≤ _
      omega
theorem sel_mem {E : List (List ND)} {M : List Nat} : ∀ (f k : Nat), k + f = E.length → ∀ t ∈ selP E M f k, t ∈ E
  | 0, k, _, t, ht => by cases ht
  | f + 1, k, h, t, ht => by
    have ht : t ∈ (if k ∈ M then [E.getD k []] else []) ++ selP E M f (k + 1) := ht
    rcases List.mem_append.mp ht with z | z
    · split at z
      · simp only [List.mem_cons, List.not_mem_nil, or_false] at z
        rw [z, List.getD_eq_getElem?_getD, List.getElem?_eq_getElem (by omega)]
        exact List.getElem_mem _
      · cases z
    · exact sel_mem f (k + 1) (by omega) t z
/-- places in their order -/
theorem sel_is {E : List (List ND)} {M : List Nat} : ∀ (f k : Nat) (R : List Nat), k + f = E.length → R.Pairwise (· < ·) → (∀ x ∈ R, k ≤ x ∧ x < E.length) → (∀ x, k ≤ x → (x ∈ M ↔ x ∈ R)) → selP E M f k = R.map (fun x => E.getD x [])
  | 0, k, R, h, _, hr, _ => by
    cases R with
    | nil => rfl
    | cons x R => have := hr x List.mem_cons_self; omega
  | f + 1, k, R, h, hp, hr, hm => by
    show (if k ∈ M then [E.getD k []] else []) ++ selP E M f (k + 1) = _
    cases R with
    | nil =>
      have : k ∉ M := fun z => by have := (hm k (Nat.le_refl _)).mp z; cases this
      rw [if_neg this, sel_is f (k + 1) [] (by omega) List.Pairwise.nil (fun x hx => by cases hx) (fun x hx => hm x (by omega))]
      rfl
    | cons x R =>
      have hx := hr x List.mem_cons_self
      obtain ⟨p1, p2⟩ := List.pairwise_cons.mp hp
      by_cases c : x = k
      · subst c
        rw [if_pos ((hm x (Nat.le_refl _)).mpr List.mem_cons_self), sel_is f (x + 1) R (by omega) p2 (fun y hy => ⟨p1 y hy, (hr y (List.mem_cons_of_mem _ hy)).2⟩) (fun y hy => by
          rw [hm y (by omega), List.mem_cons]
          exact ⟨fun z => z.elim (fun w => by omega) id, Or.inr⟩)]
        rfl
      · have nk : k ∉ M := fun z => by
          rcases List.mem_cons.mp ((hm k (Nat.le_refl _)).mp z) with y | y
          · exact c y.symm
          · have := p1 k y; omega
        rw [if_neg nk, sel_is f (k + 1) (x :: R) (by omega) hp (fun y hy => by
          rcases List.mem_cons.mp hy with z | z
          · rw [z]; omega
          · have := p1 y z
            exact ⟨by omega, (hr y hy).2⟩) (fun y hy => hm y (by omega))]
        rfl
/-- the pairs that are COMMON are in order, and EQUAL -/
theorem mk_ok {eq : Nat → Nat → Bool} {n m : Nat} : ∀ (f a b : Nat), (∀ p ∈ mkP eq n m f a b, (a ≤ p.1 ∧ p.1 < n) ∧ (b ≤ p.2 ∧ p.2 < m) ∧ eq p.1 p.2 = true) ∧ ((mkP eq n m f a b).map Prod.fst).Pairwise (· < ·) ∧ ((mkP eq n m f a b).map Prod.snd).Pairwise (· < ·)
  | 0, _, _ => ⟨(fun p hp => by cases hp), List.Pairwise.nil, List.Pairwise.nil⟩
  | f + 1, a, b => by
    rw [mkP_s]
    by_cases c : n ≤ a ∨ m ≤ b
    · rw [if_pos c]
      exact ⟨(fun p hp => by cases hp), List.Pairwise.nil, List.Pairwise.nil⟩
    · rw [if_neg c]
      by_cases e : eq a b = true
      · rw [if_pos e]
        obtain ⟨h1, h2, h3⟩ := mk_ok (eq := eq) (n := n) (m := m) f (a + 1) (b + 1)
        refine ⟨fun p hp => ?_, List.pairwise_cons.mpr ⟨fun x hx => ?_, h2⟩, List.pairwise_cons.mpr ⟨fun x hx => ?_, h3⟩⟩
        · rcases List.mem_cons.mp hp with z | z
          · rw [z]
            exact ⟨⟨Nat.le_refl _, by show a < n; omega⟩, ⟨Nat.le_refl _, by show b < m; omega⟩, e⟩
          · obtain ⟨y1, y2, y3⟩ := h1 p z
            exact ⟨⟨by omega, y1.2⟩, ⟨by omega, y2.2⟩, y3⟩
        · obtain ⟨p, hp, rfl⟩ := List.mem_map.mp hx
          have := (h1 p hp).1.1
          show a < p.1
          omega
        · obtain ⟨p, hp, rfl⟩ := List.mem_map.mp hx
          have := (h1 p hp).2.1.1
          show b < p.2
          omega
      · rw [if_neg e]
        split
        · obtain ⟨h1, h2, h3⟩ := mk_ok (eq := eq) (n := n) (m := m) f (a + 1) b
          exact ⟨fun p hp => by obtain ⟨y1, y2, y3⟩ := h1 p hp; exact ⟨⟨by omega, y1.2⟩, y2, y3⟩, h2, h3⟩
        · obtain ⟨h1, h2, h3⟩ := mk_ok (eq := eq) (n := n) (m := m) f a (b + 1)
          exact ⟨fun p hp => by obtain ⟨y1, y2, y3⟩ := h1 p hp; exact ⟨y1, ⟨by omega, y2.2⟩, y3⟩, h2, h3⟩
section RWS
variable {x : ND} {f n : Nat} {q : List Int} {E F : List (List ND)}
theorem une_num {k : Nat} (hk : k < 100) : une (wnum (k : Int)) = wnum (k : Int) := une_fg (num_fg hk)
theorem rw_rm (hx : NR x ∧ VN x) (h4 : x.1 = 4) (hf : (f : Int) ≤ 11) (hq : x.2.2.2.2 = q) (h100 : n ≤ 100) (hE : ∀ t ∈ E, SB (f : Int) t ∧ rq t = []) (hl : E.flatten.length + 1 ≤ n) {M : List Nat} : ∀ (k j : Nat), k + j = E.length → lyQ (PQ f n q) (rvP M k) (gpN x (E.take k ++ selP E M j k) (E.take k ++ selP E M j k).length) (gpN x (selP E M E.length 0) (selP E M E.length 0).length)
  | 0, j, h => by
    have : j = E.length := by omega
    subst this
    show gpN x (selP E M E.length 0) (selP E M E.length 0).length = gpN x (E.take 0 ++ selP E M E.length 0) (E.take 0 ++ selP E M E.length 0).length
    rw [List.take_zero, List.nil_append]
  | k + 1, j, h => by
    have i := rw_rm hx h4 hf hq h100 hE hl (M := M) k (j + 1) (by omega)
    have lE : E.length ≤ E.flatten.length := os_le (fun t ht => (hE t ht).1.1.1)
    have tk : E.take (k + 1) = E.take k ++ [E.getD k []] := by
      rw [List.take_succ_eq_append_getElem (by omega), List.getD_eq_getElem?_getD, List.getElem?_eq_getElem (by omega)]
      rfl
    have es : selP E M (j + 1) k = (if k ∈ M then [E.getD k []] else []) ++ selP E M j (k + 1) := rfl
    have er : rvP M (k + 1) = (if k ∈ M then [] else [(25, [wnum (k : Int)], [])]) ++ rvP M k := rfl
    have mE : ∀ t ∈ E.take (k + 1) ++ selP E M j (k + 1), SB (f : Int) t ∧ rq t = [] := fun t ht => by
      rcases List.mem_append.mp ht with z | z
      · exact hE t (List.mem_of_mem_take z)
      · exact hE t (sel_mem j (k + 1) (by omega) t z)
    have ls := sel_len (E := E) (M := M) j (k + 1) (by omega)
    have lt : E.flatten.length = (E.take (k + 1)).flatten.length + (E.drop (k + 1)).flatten.length := by
      rw [← flat_app, List.take_append_drop]
    rw [er]
    rw [es] at i
    by_cases c : k ∈ M
    · rw [if_pos c, List.nil_append, tk, List.append_assoc]
      rw [if_pos c] at i
      exact i
    · rw [if_neg c]
      rw [if_neg c, List.nil_append] at i
      rw [tk, flat_app, flat_one] at lt
      rw [tk] at mE ⊢
      rw [List.append_assoc] at mE ⊢
      have m2 : ∀ t ∈ E.take k ++ selP E M j (k + 1), SB (f : Int) t ∧ rq t = [] := fun t ht => mE t (by
        rcases List.mem_append.mp ht with z | z
        · exact List.mem_append_left _ z
        · exact List.mem_append_right _ (List.mem_append_right _ z))
      refine ⟨gpN x (E.take k ++ selP E M j (k + 1)) (E.take k ++ selP E M j (k + 1)).length, ?_, gp_sb hx hf hq (fun t ht => (m2 t ht).1) (by rw [flat_app]; omega) h100 (Or.inr ⟨h4, fun t ht => (m2 t ht).2⟩), i⟩
      refine Or.inr (Or.inl ⟨rfl, rfl, [], wnum (k : Int), ?_, ⟨E.take k, E.getD k [], selP E M j (k + 1), kd_gp (fun t ht => (mE t ht).1.1.1), Or.inr ⟨h4, ?_⟩, rfl⟩⟩)
      · show [une (wnum (k : Int))] = [wnum (k : Int)]
        rw [une_num (by omega)]
      · rw [num_ok k (by omega), List.length_take]
        omega
theorem rw_ad (hx : NR x ∧ VN x) (h4 : x.1 = 4) (hf : (f : Int) ≤ 11) (hq : x.2.2.2.2 = q) (h100 : n ≤ 100) (hE : ∀ t ∈ E, SB (f : Int) t ∧ rq t = []) (hF : ∀ t ∈ F, SB (f : Int) t ∧ rq t = []) (hl : F.flatten.length + 1 ≤ n) {M : List Nat} : ∀ (j k : Nat) (X : List (List ND)) (R : List (Nat × Nat)), k + j = F.length → X.map nm = (F.take k).map nm → (∀ t ∈ X, SB (f : Int) t ∧ rq t = []) → (∀ p ∈ R, p.1 < E.length ∧ (k ≤ p.2 ∧ p.2 < F.length) ∧ EK (E.getD p.1 []) (F.getD p.2 [])) → (R.map Prod.snd).Pairwise (· < ·) → (∀ y, k ≤ y → (y ∈ M ↔ y ∈ R.map Prod.snd)) → ∃ X', lyQ (PQ f n q) (adP F M j k) (gpN x (X ++ R.map (fun p => E.getD p.1 [])) (X ++ R.map (fun p => E.getD p.1 [])).length) (gpN x X' X'.length) ∧ (∀ t ∈ X', SB (f : Int) t ∧ rq t = []) ∧ X'.map nm = F.map nm
  | 0, k, X, R, h, hX, sX, hR, hp, hm => by
    have e : R = [] := by
      cases R with
      | nil => rfl
      | cons p R => have := (hR p List.mem_cons_self).2.1; omega
    subst e
    refine ⟨X, ?_, sX, ?_⟩
    · show gpN x X X.length = gpN x (X ++ []) (X ++ []).length
      rw [List.append_nil]
    · rw [hX, List.take_of_length_le (by omega)]
  | j + 1, k, X, R, h, hX, sX, hR, hp, hm => by
    have er : adP F M (j + 1) k = (if k ∈ M then [] else [(26, [wnum (k : Int)], [F.getD k []])]) ++ adP F M j (k + 1) := rfl
    have lF : F.length ≤ F.flatten.length := os_le (fun t ht => (hF t ht).1.1.1)
    have tk : F.take (k + 1) = F.take k ++ [F.getD k []] := by
      rw [List.take_succ_eq_append_getElem (by omega), List.getD_eq_getElem?_getD, List.getElem?_eq_getElem (by omega)]
      rfl
    have mF : F.getD k [] ∈ F := by
      rw [List.getD_eq_getElem?_getD, List.getElem?_eq_getElem (by omega)]
      exact List.getElem_mem _
    have lX : X.length = k := by
      have := congrArg List.length hX
      rw [List.length_map, List.length_map, List.length_take] at this
      omega
    rw [er]
    by_cases c : k ∈ M
    · rw [if_pos c, List.nil_append]
      cases R with
      | nil => have := (hm k (Nat.le_refl _)).mp c; cases this
      | cons p R =>
        obtain ⟨p1, p2⟩ := List.pairwise_cons.mp (show (p.2 :: R.map Prod.snd).Pairwise (· < ·) from hp)
        have pk : p.2 = k := by
          rcases List.mem_cons.mp (show k ∈ p.2 :: R.map Prod.snd from (hm k (Nat.le_refl _)).mp c) with z | z
          · exact z.symm
          · have := p1 k z
            have := (hR p List.mem_cons_self).2.1.1
            omega
        have hp0 := hR p List.mem_cons_self
        have ep : nm (E.getD p.1 []) = nm (F.getD k []) := by rw [← pk]; exact hp0.2.2
        have mE : E.getD p.1 [] ∈ E := by
          rw [List.getD_eq_getElem?_getD, List.getElem?_eq_getElem hp0.1]
          exact List.getElem_mem _
        obtain ⟨X', a1, a2, a3⟩ := rw_ad hx h4 hf hq h100 hE hF hl (M := M) j (k + 1) (X ++ [E.getD p.1 []]) R (by omega) (by rw [List.map_append, hX, tk, List.map_append, List.map_cons, List.map_cons, ep]) (fun t ht => by
          rcases List.mem_append.mp ht with z | z
          · exact sX t z
          · simp only [List.mem_cons, List.not_mem_nil, or_false] at z
            rw [z]; exact hE _ mE) (fun r hr => by
          obtain ⟨b1, b2, b3⟩ := hR r (List.mem_cons_of_mem _ hr)
          have := p1 r.2 (List.mem_map_of_mem hr)
          exact ⟨b1, ⟨by omega, b2.2⟩, b3⟩) p2 (fun y hy => by
          rw [hm y (by omega)]
          show y ∈ p.2 :: R.map Prod.snd ↔ _
          rw [List.mem_cons]
          exact ⟨fun z => z.elim (fun w => by omega) id, Or.inr⟩)
        rw [List.append_assoc] at a1
        exact ⟨X', a1, a2, a3⟩
    · rw [if_neg c]
      have hR' : ∀ p ∈ R, p.1 < E.length ∧ (k + 1 ≤ p.2 ∧ p.2 < F.length) ∧ EK (E.getD p.1 []) (F.getD p.2 []) := fun p hp0 => by
        obtain ⟨b1, b2, b3⟩ := hR p hp0
        have : p.2 ≠ k := fun z => c ((hm k (Nat.le_refl _)).mpr (by rw [← z]; exact List.mem_map_of_mem hp0))
        exact ⟨b1, ⟨by omega, b2.2⟩, b3⟩
      obtain ⟨X', a1, a2, a3⟩ := rw_ad hx h4 hf hq h100 hE hF hl (M := M) j (k + 1) (X ++ [F.getD k []]) R (by omega) (by rw [List.map_append, hX, tk, List.map_append]) (fun t ht => by
        rcases List.mem_append.mp ht with z | z
        · exact sX t z
        · simp only [List.mem_cons, List.not_mem_nil, or_false] at z
          rw [z]; exact hF _ mF) hR' hp (fun y hy => hm y (by omega))
      rw [List.append_assoc] at a1
      have sR : ∀ t ∈ R.map (fun p => E.getD p.1 []), SB (f : Int) t ∧ rq t = [] := fun t ht => by
        obtain ⟨p, hp0, rfl⟩ := List.mem_map.mp ht
        refine hE _ ?_
        rw [List.getD_eq_getElem?_getD, List.getElem?_eq_getElem (hR p hp0).1]
        exact List.getElem_mem _
      have sAll : ∀ t ∈ X ++ F.getD k [] :: R.map (fun p => E.getD p.1 []), SB (f : Int) t ∧ rq t = [] := fun t ht => by
        rcases List.mem_append.mp ht with z | z
        · exact sX t z
        · rcases List.mem_cons.mp z with z | z
          · rw [z]; exact hF _ mF
          · exact sR t z
      -- how many NODES: no more than those of F
      have eR : (R.map (fun p => E.getD p.1 [])).map nm = (selP F M j (k + 1)).map nm := by
        rw [sel_is j (k + 1) (R.map Prod.snd) (by omega) hp (fun y hy => by
          obtain ⟨p, hp0, rfl⟩ := List.mem_map.mp hy
          exact (hR' p hp0).2.1) (fun y hy => hm y (by omega)), List.map_map, List.map_map, List.map_map]
        exact List.map_congr_left (fun p hp0 => (hR p hp0).2.2)
      have lR : (R.map (fun p => E.getD p.1 [])).flatten.length ≤ (F.drop (k + 1)).flatten.length := by
        rw [← flat_nm _ (m := (f : Int)) (fun t ht => (sR t ht).1), eR, flat_nm _ (m := (f : Int)) (fun t ht => (hF t (sel_mem j (k + 1) (by omega) t ht)).1)]
        exact sel_len j (k + 1) (by omega)
      have lX2 : X.flatten.length = (F.take k).flatten.length := by
        rw [← flat_nm X (m := (f : Int)) (fun t ht => (sX t ht).1), hX, flat_nm _ (m := (f : Int)) (fun t ht => (hF t (List.mem_of_mem_take ht)).1)]
      have lt : F.flatten.length = (F.take (k + 1)).flatten.length + (F.drop (k + 1)).flatten.length := by rw [← flat_app, List.take_append_drop]
      rw [tk, flat_app, flat_one] at lt
      refine ⟨X', ⟨_, ?_, gp_sb hx hf hq (fun t ht => (sAll t ht).1) (by rw [flat_app, flat_con]; omega) h100 (Or.inr ⟨h4, fun t ht => (sAll t ht).2⟩), a1⟩, a2, a3⟩
      have k0 : kd (gpN x (X ++ R.map (fun p => E.getD p.1 [])) (X ++ R.map (fun p => E.getD p.1 [])).length) = X ++ R.map (fun p => E.getD p.1 []) := kd_gp (fun t ht => by
        rcases List.mem_append.mp ht with z | z
        · exact (sX t z).1.1.1
        · exact (sR t z).1.1.1)
      have ek : kyT (F.getD k []) [] = F.getD k [] := by
        have := ky_self (T := F.getD k []) (sb_len1 (hF _ mF).1)
        rw [(hF _ mF).2] at this
        exact this
      refine Or.inr (Or.inr ⟨rfl, F.getD k [], [], wnum (k : Int), rfl, ?_, Or.inr ⟨h4, X, R.map (fun p => E.getD p.1 []), k0, ?_, ?_⟩⟩)
      · show [une (wnum (k : Int))] = [wnum (k : Int)]
        rw [une_num (by omega)]
      · rw [num_ok k (by omega), lX]
      · rw [ek]
        rfl
end RWS
