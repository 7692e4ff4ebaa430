/-! READING: what is read is sound -/
theorem nr_mk {k p : Int} {t : List Int} (h : 0 ≤ k ∧ k ≤ 5) (hp : -200 ≤ p ∧ p ≤ 200) (ht : t.length ≤ 40) (hr : ∀ y ∈ t, 0 ≤ y ∧ y < 256) : NR (k, 1, p, t, []) := ⟨h.1, h.2, Nat.le_refl 1, show 1 ≤ 100 by decide, hp.1, hp.2, ht, hr, Nat.zero_le _, fun y hy => by cases hy⟩
def rng (r : List Int) : Prop := ∀ y ∈ r, 0 ≤ y ∧ y < 256
theorem rng_tl {r : List Int} (h : rng r) : rng r.tail := fun y hy => h y (List.mem_of_mem_tail hy)
theorem rng_skB : ∀ {r : List Int}, rng r → rng (skB r)
  | [], h => h
  | x :: r, h => by
    unfold skB
    split
    · exact rng_skB (fun y hy => h y (List.mem_cons_of_mem _ hy))
    · exact h
theorem rng_hd {r : List Int} (h : rng r) (h1 : hdI r ≠ -1) : 0 ≤ hdI r ∧ hdI r < 256 := by
  cases r with
  | nil => exact absurd rfl h1
  | cons x r => exact h x List.mem_cons_self
theorem bd_inr {α β : Type} {o : Rs α} {g : α → Rs β} {z : β} (h : bd o g = .inr z) : ∃ a, o = .inr a ∧ g a = .inr z := by
  cases o with
  | inl q => cases h
  | inr a => exact ⟨a, rfl, h⟩
theorem rdE_rng {r : List Int} {z : Int × List Int} (ho : rdE r = .inr z) (h : rng r) : rng z.2 := by
  unfold rdE at ho
  split at ho
  · unfold rdH at ho
    split at ho
    · cases ho
    · split at ho
      · cases ho
      · split at ho
        · cases ho
        · split at ho
          · cases ho
          · cases ho
            exact rng_tl (rng_tl (rng_tl (rng_tl (rng_tl h))))
  · split at ho
    · cases ho
    · cases ho
      exact rng_tl h
theorem rng_snoc {a : List Int} {x : Int} (h : rng a) (hx : 0 ≤ x ∧ x < 256) : rng (a ++ [x]) := fun y hy => by
  rcases List.mem_append.mp hy with w | w
  · exact h y w
  · simp only [List.mem_cons, List.not_mem_nil, or_false] at w
    rw [w]; exact hx
theorem rdT_s {f m : Nat} {a r : List Int} : rdT (f + 1) m a r = if r = [] then .inl [] else if hdI r = 34 then .inr (a, r.tail) else if m ≤ a.length ∨ hdI r < 32 then .inl r else if hdI r = 92 then bd (rdE r.tail) (fun z => rdT f m (a ++ [z.1]) z.2) else rdT f m (a ++ [hdI r]) r.tail := rfl
theorem rdT_ok {m : Nat} : ∀ (f : Nat) (a r : List Int) (z : List Int × List Int), rdT f m a r = .inr z → rng r → rng a → a.length ≤ m → rng z.1 ∧ z.1.length ≤ m ∧ rng z.2
  | 0, a, r, z, h, _, _, _ => by cases h
  | f + 1, a, r, z, h, hr, ha, hl => by
    rw [rdT_s] at h
    split at h
    · cases h
    · split at h
      · cases h
        exact ⟨ha, hl, rng_tl hr⟩
      · split at h
        · cases h
        · split at h
          · obtain ⟨e, h1, h2⟩ := bd_inr h
            have e1 := rdE_r h1 (Nat.lt_succ_self _)
            exact rdT_ok f _ _ z h2 (rdE_rng h1 (rng_tl hr)) (rng_snoc ha ⟨e1.1, e1.2.1⟩) (by simp; omega)
          · have hh : 0 ≤ hdI r ∧ hdI r < 256 := rng_hd hr (by omega)
            exact rdT_ok f _ _ z h (rng_tl hr) (rng_snoc ha hh) (by simp; omega)
theorem rdF_ok : ∀ (r a : List Int) (z : List Int × List Int), rdF a r = .inr z → rng r → fgR a → a.length ≤ 24 → fgR z.1 ∧ z.1.length ≤ 24 ∧ rng z.2
  | [], a, z, h, hr, ha, hl => by
    cases h
    exact ⟨ha, hl, hr⟩
  | x :: r, a, z, h, hr, ha, hl => by
    unfold rdF at h
    split at h
    · split at h
      · cases h
      · rename_i c _
        exact rdF_ok r _ z h (fun y hy => hr y (List.mem_cons_of_mem _ hy)) (fgR_app ha c) (by simp; omega)
    · cases h
      exact ⟨ha, hl, hr⟩
theorem rdF1_ok {a r : List Int} {z : List Int × List Int} (h : rdF1 a r = .inr z) (hr : rng r) (ha : fgR a) (hl : a.length ≤ 24) : fgR z.1 ∧ z.1.length ≤ 24 ∧ rng z.2 := by
  unfold rdF1 at h
  split at h
  · exact rdF_ok r a z h hr ha hl
  · cases h
theorem rdX_rng {r : List Int} {z : Int × List Int} (h : rdX r = .inr z) (hr : rng r) : rng z.2 := by
  have h1 : rng (exS r) := by
    unfold exS
    split
    · exact rng_tl hr
    · exact hr
  unfold rdX at h
  split at h
  · cases h
    show rng (exR (exS r))
    unfold exR
    split
    · exact rng_tl (rng_tl h1)
    · exact rng_tl h1
  · cases h
/-- a leaf -/
def LfOK (o : Rs (List ND × List Int)) : Prop := ∀ z, o = .inr z → ∃ y : ND, z.1 = [y] ∧ y.1 < 4 ∧ y.2.1 = 1 ∧ NR y ∧ y.2.2.2.2 = [] ∧ rng z.2
theorem nmSg_r {g : Int} {F : List Int} (hf : fgR F) (hl : F.length ≤ 24) : (nmSg g F).length ≤ 40 ∧ ∀ y ∈ nmSg g F, 0 ≤ y ∧ y < 256 := by
  unfold nmSg
  split
  · exact ⟨by decide, fun y hy => by simp only [List.mem_cons, List.not_mem_nil, or_false] at hy; omega⟩
  · constructor
    · have : ((F.take (nmT F)).drop (nmF F)).length ≤ F.length := by simp; omega
      simp only [List.length_append]
      split <;> simp <;> omega
    · intro y hy
      rcases List.mem_append.mp hy with w | w
      · split at w
        · cases w
        · simp only [List.mem_cons, List.not_mem_nil, or_false] at w; omega
      · have := hf y (List.mem_of_mem_take (List.mem_of_mem_drop w))
        omega
theorem nmPw_r {F : List Int} {p : Int} (h : nmOk F p = 1) : -99 ≤ nmPw F p ∧ nmPw F p ≤ 99 := by
  unfold nmOk at h
  split at h
  · rename_i c
    rcases c with c | c
    · unfold nmPw
      rw [if_pos c]
      omega
    · exact c
  · omega
theorem rdNb_ok {r : List Int} (hr : rng r) : LfOK (rdNb r) := by
  intro z h
  unfold rdNb at h
  obtain ⟨z1, h1, h⟩ := bd_inr h
  obtain ⟨z2, h2, h⟩ := bd_inr h
  obtain ⟨z3, h3, h⟩ := bd_inr h
  have r0 : rng (ngS r) := by
    unfold ngS
    split
    · exact rng_tl hr
    · exact hr
  have f0 : fgR [] := fun x hx => by cases hx
  have k1 : fgR z1.1 ∧ z1.1.length ≤ 24 ∧ rng z1.2 := by
    unfold rdN1 at h1
    split at h1
    · cases h1
      exact ⟨fun x hx => by simp only [List.mem_cons, List.not_mem_nil, or_false] at hx; omega, show 1 ≤ 24 by decide, rng_tl r0⟩
    · exact rdF1_ok h1 r0 f0 (by decide)
  have k2 : fgR z2.1 ∧ z2.1.length ≤ 24 ∧ rng z2.2 := by
    unfold rdN2 at h2
    split at h2
    · exact rdF1_ok h2 (rng_tl k1.2.2) k1.1 k1.2.1
    · cases h2
      exact k1
  have k3 : rng z3.2 := by
    unfold rdN3 at h3
    split at h3
    · exact rdX_rng h3 (rng_tl k2.2.2)
    · cases h3
      exact k2.2.2
  split at h
  · rename_i ok
    cases h
    have q1 := nmSg_r (g := if hdI r = 45 then 1 else 0) k2.1 k2.2.1
    have q2 := nmPw_r ok
    exact ⟨_, rfl, show (2 : Int) < 4 by decide, rfl, nr_mk (by decide) (by omega) q1.1 q1.2, rfl, k3⟩
  · cases h
theorem rdW_rng : ∀ {w r r1 : List Int}, rdW w r = .inr r1 → rng r → rng r1
  | [], r, r1, h, hr => by
    cases h
    exact hr
  | c :: w, r, r1, h, hr => by
    unfold rdW at h
    split at h
    · exact rdW_rng h (rng_tl hr)
    · cases h
theorem rdC_ok {r : List Int} (hr : rng r) : LfOK (rdC r) := by
  intro z h
  unfold rdC at h
  have nr : ∀ k p : Int, 0 ≤ k ∧ k ≤ 5 → 0 ≤ p ∧ p ≤ 1 → NR (k, 1, p, [], []) := fun k p h1 h2 => nr_mk h1 (by omega) (by decide) (fun y hy => by cases hy)
  split at h
  · obtain ⟨r1, h1, h⟩ := bd_inr h
    cases h
    exact ⟨_, rfl, show (0 : Int) < 4 by decide, rfl, nr 0 0 (by decide) (by decide), rfl, rdW_rng h1 hr⟩
  · split at h
    · obtain ⟨r1, h1, h⟩ := bd_inr h
      cases h
      exact ⟨_, rfl, show (1 : Int) < 4 by decide, rfl, nr 1 1 (by decide) (by decide), rfl, rdW_rng h1 hr⟩
    · split at h
      · obtain ⟨r1, h1, h⟩ := bd_inr h
        cases h
        exact ⟨_, rfl, show (1 : Int) < 4 by decide, rfl, nr 1 0 (by decide) (by decide), rfl, rdW_rng h1 hr⟩
      · cases h
theorem rdTx_ok {r : List Int} (hr : rng r) : LfOK (rdTx r) := by
  intro z h
  unfold rdTx at h
  obtain ⟨t, h1, h⟩ := bd_inr h
  cases h
  have k := rdT_ok 40000 [] r.tail t h1 (rng_tl hr) (fun y hy => by cases hy) (by decide)
  exact ⟨_, rfl, show (3 : Int) < 4 by decide, rfl, nr_mk (by decide) (by decide) k.2.1 k.1, rfl, k.2.2⟩
/-- a VALUE that began as number b -/
def TOK (f : Nat) (T : List ND) : Prop := (TR T ∧ PZL T) ∧ (∀ x ∈ T, NR x) ∧ ∀ g, dpS g T ≤ (f : Int) - 1
def RvOK (f b : Nat) (T : List ND) (b1 : Nat) : Prop := TOK f T ∧ rq T = [] ∧ b1 = b + T.length ∧ b1 ≤ 100
theorem mem_ky {T : List ND} {q : List Int} {x : ND} (h : x ∈ kyT T q) : x = wQ (T.getD 0 nd0) q ∨ x ∈ T := by
  unfold kyT at h
  rcases List.mem_cons.mp h with z | z
  · exact Or.inl z
  · exact Or.inr (List.mem_of_mem_tail z)
theorem tok_ky {f : Nat} {T : List ND} {q : List Int} (h : TOK f T) (hq : rng q) (hl : q.length ≤ 12) : TOK f (kyT T q) := by
  refine ⟨⟨tr_ky h.1.1, pzl_ky h.1.1.2.1 h.1.2⟩, fun x hx => ?_, fun g => by rw [dp_ky]; exact h.2.2 g⟩
  rcases mem_ky hx with z | z
  · rw [z]
    exact nr_Q (h.2.1 _ (nd_mem h.1.1.2.1)) hl hq
  · exact h.2.1 x z
theorem rdKy_ok {how : Int} {E : List (List ND)} {r : List Int} {z : List Int × List Int} (h : rdKy how E r = .inr z) (hr : rng r) : rng z.1 ∧ z.1.length ≤ 12 ∧ rng z.2 := by
  unfold rdKy at h
  split at h
  · cases h
  · obtain ⟨t, h1, h⟩ := bd_inr h
    have k := rdT_ok 40000 [] _ t h1 (rng_tl (rng_skB hr)) (fun y hy => by cases hy) (by decide)
    split at h
    · cases h
    · split at h
      · cases h
        exact ⟨k.1, k.2.1, rng_tl (rng_skB k.2.2)⟩
      · cases h
def GOK (f : Nat) (g : Nat → List Int → Rs RV) : Prop := ∀ b r z, g b r = .inr z → rng r → RvOK f b z.1 z.2.1 ∧ rng z.2.2
theorem rdIt_ok {f : Nat} {g : Nat → List Int → Rs RV} (hg : GOK f g) {mp : Bool} {how : Int} {E : List (List ND)} {b : Nat} {r : List Int} {z : RV} (h : rdIt g mp how E b r = .inr z) (hr : rng r) : TOK f z.1 ∧ z.2.1 = b + z.1.length ∧ z.2.1 ≤ 100 ∧ rng z.2.2 := by
  unfold rdIt at h
  split at h
  · obtain ⟨k, h1, h⟩ := bd_inr h
    obtain ⟨v, h2, h⟩ := bd_inr h
    cases h
    have kk := rdKy_ok h1 hr
    have gg := hg _ _ _ h2 kk.2.2
    refine ⟨tok_ky gg.1.1 kk.1 kk.2.1, ?_, gg.1.2.2.2, gg.2⟩
    show v.2.1 = b + (kyT v.1 k.1).length
    rw [ky_len gg.1.1.1.1.2.1]
    exact gg.1.2.2.1
  · have gg := hg _ _ _ h hr
    exact ⟨gg.1.1, gg.1.2.2.1, gg.1.2.2.2, gg.2⟩
theorem rdL_s {g : Nat → List Int → Rs RV} {mp : Bool} {how : Int} {n : Nat} {E : List (List ND)} {b : Nat} {r : List Int} : rdL g mp how (n + 1) E b r = bd (rdIt g mp how E b r) (fun v => if hdI (skB v.2.2) = enD mp then .inr (E ++ [v.1], v.2.1, (skB v.2.2).tail) else if hdI (skB v.2.2) = 44 then rdL g mp how n (E ++ [v.1]) v.2.1 (skB v.2.2).tail else .inl (skB v.2.2)) := rfl
theorem snoc_all {α : Type} {p : α → Prop} {E : List α} {x : α} (h : ∀ T ∈ E, p T) (hx : p x) : ∀ T ∈ E ++ [x], p T := fun T hT => by
  rcases List.mem_append.mp hT with w | w
  · exact h T w
  · simp only [List.mem_cons, List.not_mem_nil, or_false] at w
    rw [w]; exact hx
theorem rdL_ok {f b0 : Nat} {g : Nat → List Int → Rs RV} (hg : GOK f g) {mp : Bool} {how : Int} : ∀ (n : Nat) (E : List (List ND)) (b : Nat) (r : List Int) (z : List (List ND) × Nat × List Int), rdL g mp how n E b r = .inr z → rng r → (∀ T ∈ E, TOK f T) → b = b0 + E.flatten.length → (∀ T ∈ z.1, TOK f T) ∧ z.2.1 = b0 + z.1.flatten.length ∧ z.2.1 ≤ 100 ∧ rng z.2.2
  | 0, E, b, r, z, h, _, _, _ => by cases h
  | n + 1, E, b, r, z, h, hr, hE, hb => by
    rw [rdL_s] at h
    obtain ⟨v, h1, h⟩ := bd_inr h
    have k := rdIt_ok hg h1 hr
    have hE' := snoc_all (p := TOK f) hE k.1
    have hl : (E ++ [v.1]).flatten.length = E.flatten.length + v.1.length := by simp
    split at h
    · cases h
      exact ⟨hE', by show v.2.1 = b0 + (E ++ [v.1]).flatten.length; rw [hl]; omega, k.2.2.1, rng_tl (rng_skB k.2.2.2)⟩
    · split at h
      · exact rdL_ok hg n _ _ _ z h (rng_tl (rng_skB k.2.2.2)) hE' (by rw [hl]; omega)
      · cases h
theorem rdG_ok {f b : Nat} {g : Nat → List Int → Rs RV} (hg : GOK f g) {mp : Bool} {how : Int} {r : List Int} {z : RV} (hf : 1 ≤ f) (hb : b ≤ 100) (h : rdG g mp how b r = .inr z) (hr : rng r) : ∃ E, z.1 = gpN (ndK (if mp then 5 else 4)) E E.length ∧ (∀ T ∈ E, TOK f T) ∧ z.2.1 = b + E.flatten.length ∧ z.2.1 ≤ 100 ∧ rng z.2.2 := by
  unfold rdG at h
  obtain ⟨k, h1, h⟩ := bd_inr h
  cases h
  split at h1
  · cases h1
    exact ⟨[], rfl, (fun T hT => by cases hT), (Nat.add_zero b).symm, hb, rng_tl (rng_skB hr)⟩
  · have q := rdL_ok (b0 := b) hg 101 [] b _ k h1 (rng_skB hr) (fun T hT => by cases hT) (by simp)
    exact ⟨k.1, rfl, q.1, q.2.1, q.2.2.1, q.2.2.2⟩
theorem nr_gp {k : Int} {E : List (List ND)} {m : Nat} (hk : 0 ≤ k ∧ k ≤ 5) (hl : E.flatten.length < 100) (hm : m = E.length) (h : ∀ T ∈ E, ∀ x ∈ T, NR x) : ∀ x ∈ gpN (ndK k) E m, NR x := by
  intro x hx
  unfold gpN at hx
  rcases List.mem_cons.mp hx with w | w
  · rw [w, hm, List.take_length]
    exact ⟨hk.1, hk.2, by show 1 ≤ 1 + _; omega, by show 1 + _ ≤ 100; omega, show (-200 : Int) ≤ 0 by decide, show (0 : Int) ≤ 200 by decide, show 0 ≤ 40 by decide, (fun y hy => by cases hy), show 0 ≤ 12 by decide, fun y hy => by cases hy⟩
  · obtain ⟨T, hT, hxT⟩ := List.mem_flatten.mp w
    exact h T hT x hxT
theorem rdV_s {f : Nat} {how : Int} {b : Nat} {r : List Int} : rdV (f + 1) how b r = if skB r = [] ∨ 100 ≤ b then .inl (skB r) else if hdI (skB r) = 91 ∨ hdI (skB r) = 123 then (if f = 0 then .inl (skB r) else rdG (rdV f how) (decide (hdI (skB r) = 123)) how (b + 1) (skB r).tail) else bd (if hdI (skB r) = 34 then rdTx (skB r) else if hdI (skB r) = 45 ∨ fgC (hdI (skB r)) then rdNb (skB r) else rdC (skB r)) (fun z => .inr (z.1, b + 1, z.2)) := rfl
theorem rdV_ok {how : Int} : ∀ f, GOK f (rdV f how)
  | 0 => fun b r z h hr => by cases h
  | f + 1 => fun b r z h hr => by
    have hr' := rng_skB hr
    rw [rdV_s] at h
    split at h
    · cases h
    · rename_i c1
      split at h
      · rename_i c2
        split at h
        · cases h
        · rename_i c3
          obtain ⟨E, e1, e2, e3, e4, e5⟩ := rdG_ok (rdV_ok f) (by omega) (by omega) h (rng_tl hr')
          have hk : 4 ≤ (ndK (if decide (hdI (skB r) = 123) = true then 5 else 4)).1 := by split <;> decide
          have ll : (gpN (ndK (if decide (hdI (skB r) = 123) = true then 5 else 4)) E E.length).length = E.flatten.length + 1 := gp_len
          refine ⟨⟨⟨?_, ?_, ?_⟩, ?_, ?_, e4⟩, e5⟩
          · rw [e1]
            exact ⟨tr_gp hk (fun T hT => (e2 T hT).1.1), pzl_gp (fun T hT => (e2 T hT).1.2)⟩
          · rw [e1]
            exact nr_gp (by split <;> decide) (by omega) rfl (fun T hT => (e2 T hT).2.1)
          · intro g
            rw [e1]
            have := dp_gp (x := ndK (if decide (hdI (skB r) = 123) = true then 5 else 4)) (m := E.length) (b := (f : Int) - 1) (by omega) (fun T hT => (e2 T hT).1) (fun T hT => (e2 T hT).2.2) g
            omega
          · rw [e1]
            split <;> rfl
          · rw [e1, ll]
            omega
      · obtain ⟨v, h1, h⟩ := bd_inr h
        cases h
        have hL : LfOK (if hdI (skB r) = 34 then rdTx (skB r) else if hdI (skB r) = 45 ∨ fgC (hdI (skB r)) then rdNb (skB r) else rdC (skB r)) := by
          split
          · exact rdTx_ok hr'
          · split
            · exact rdNb_ok hr'
            · exact rdC_ok hr'
        obtain ⟨y, e1, e2, e3, e4, e5, e6⟩ := hL v h1
        refine ⟨⟨⟨?_, ?_, ?_⟩, ?_, ?_, ?_⟩, e6⟩
        · show TR v.1 ∧ PZL v.1
          rw [e1]
          exact ⟨tr_leaf e3, pzl_one e3⟩
        · show ∀ x ∈ v.1, NR x
          rw [e1]
          intro x hx
          simp only [List.mem_cons, List.not_mem_nil, or_false] at hx
          rw [hx]; exact e4
        · intro g
          show dpS g v.1 ≤ _
          rw [e1, dp_leaf e2]
          omega
        · show rq v.1 = []
          rw [e1]
          exact e5
        · show b + 1 = b + v.1.length
          rw [e1]
          rfl
        · show b + 1 ≤ 100
          omega
theorem sgsF_flat : ∀ (f : Nat) (l : List ND), PZL l → l.length ≤ f → (sgsF f l).flatten = l
  | 0, l, _, h => by
    cases l with
    | nil => rfl
    | cons x l => simp at h
  | f + 1, l, hz, h => by
    cases l with
    | nil => rfl
    | cons x l =>
      have z := hz x List.mem_cons_self
      have hd : PZL ((x :: l).drop x.2.1) := fun y hy => hz y (List.mem_of_mem_drop hy)
      show ((x :: l).take x.2.1 :: sgsF f ((x :: l).drop x.2.1)).flatten = x :: l
      rw [List.flatten_cons, sgsF_flat f _ hd (by simp only [List.length_cons] at h; simp only [List.length_drop, List.length_cons]; omega), List.take_append_drop]
theorem kd_flat {T : List ND} (h : PZL T) (h1 : 1 ≤ T.length) : T = T.getD 0 nd0 :: (kd T).flatten := by
  cases T with
  | nil => simp at h1
  | cons x l =>
    show x :: l = x :: (sgsF l.length l).flatten
    rw [sgsF_flat l.length l (fun y hy => h y (List.mem_cons_of_mem _ hy)) (Nat.le_refl _)]
theorem foldH_len {h : Bool} {g : List ND → List ND} : ∀ (L E : List (List ND)), (∀ t ∈ L, 1 ≤ (g t).length ∧ (g t).length ≤ t.length) → (L.foldl (fun E t => inH h (g t) (rq t) E) E).flatten.length ≤ E.flatten.length + L.flatten.length
  | [], E, _ => by simp
  | t :: L, E, hL => by
    have a := hL t List.mem_cons_self
    have b := inH_len (h := h) (t := g t) (key := rq t) a.1 E
    have c := foldH_len (h := h) (g := g) L (inH h (g t) (rq t) E) (fun u hu => hL u (List.mem_cons_of_mem _ hu))
    simp only [List.foldl_cons, List.flatten_cons, List.length_append]
    omega
theorem nrH_len {h : Bool} : ∀ (f : Nat) (T : List ND), TR T ∧ PZL T → (nrH h f T).length ≤ T.length
  | 0, T, _ => Nat.le_refl _
  | f + 1, T, hT => by
    rw [nrH_s]
    have hk := kd_tr hT.1 hT.2
    have e := kd_flat hT.2 hT.1.2.1
    have el : T.length = (kd T).flatten.length + 1 := by
      have := congrArg List.length e
      simpa using this
    by_cases h5 : rk T = 5
    · rw [if_pos h5, gp_len]
      have := foldH_len (h := h) (g := nrH h f) (kd T) [] (fun t ht => ⟨(nrH_tr f t (hk t ht)).1.1.2.1, nrH_len f t (hk t ht)⟩)
      simp only [List.flatten_nil, List.length_nil] at this
      omega
    · rw [if_neg h5]
      by_cases h4 : rk T = 4
      · rw [if_pos h4, gp_len]
        have : ∀ L : List (List ND), (∀ t ∈ L, TR t ∧ PZL t) → (L.map (nrH h f)).flatten.length ≤ L.flatten.length := by
          intro L
          induction L with
          | nil => intro _; exact Nat.le_refl _
          | cons t L ih =>
            intro hL
            have a := nrH_len (h := h) f t (hL t List.mem_cons_self)
            have b := ih (fun u hu => hL u (List.mem_cons_of_mem _ hu))
            simp only [List.map_cons, List.flatten_cons, List.length_append]
            omega
        have := this (kd T) hk
        omega
      · rw [if_neg h4]
        exact Nat.le_refl _
theorem nrH_dp {h : Bool} : ∀ (f g : Nat) (T : List ND), TR T ∧ PZL T → dpS g (nrH h f T) ≤ dpS g T
  | 0, g, T, _ => Int.le_refl _
  | f + 1, g, T, hT => by
    rw [nrH_s]
    have hk := kd_tr hT.1 hT.2
    have rkg : ∀ (x : ND) (E : List (List ND)) (m : Nat), rk (gpN x E m) = x.1 := fun _ _ _ => rfl
    have rk0 : (T.getD 0 nd0).1 = rk T := rfl
    by_cases h5 : rk T = 5
    · rw [if_pos h5]
      have hE := foldH_all (h := h) (p := fun t => t ∈ kd T) (r := fun t => (TR t ∧ PZL t) ∧ ∀ g, ∃ u ∈ kd T, dpS g t ≤ dpS g u) (g := nrH h f) (fun t q ht => ⟨⟨tr_ky (nrH_tr f t (hk t ht)).1.1, pzl_ky (nrH_tr f t (hk t ht)).1.1.2.1 (nrH_tr f t (hk t ht)).1.2⟩, fun g => ⟨t, ht, by rw [dp_ky]; exact nrH_dp f g t (hk t ht)⟩⟩) (kd T) [] (fun T hT => by cases hT) (fun t ht => ht)
      cases g with
      | zero =>
        unfold dpS
        rw [rkg, rk0]
        exact Int.le_refl _
      | succ g =>
        unfold dpS
        rw [rkg, rk0, kd_gp (fun t ht => (hE t ht).1), if_pos (by omega), if_pos (by omega)]
        have m := foldl_max (g := dpS g) (kd T) 0
        have := foldl_le (g := dpS g) (b := (kd T).foldl (fun a k => max a (dpS g k)) 0) _ 0 m.1 (fun t ht => by
          obtain ⟨u, hu, l⟩ := (hE t ht).2 g
          have := m.2 u hu
          omega)
        omega
    · rw [if_neg h5]
      by_cases h4 : rk T = 4
      · rw [if_pos h4]
        have hE : ∀ t ∈ (kd T).map (nrH h f), (TR t ∧ PZL t) ∧ ∀ g, ∃ u ∈ kd T, dpS g t ≤ dpS g u := by
          intro t ht
          obtain ⟨u, hu, rfl⟩ := List.mem_map.mp ht
          exact ⟨(nrH_tr f u (hk u hu)).1, fun g => ⟨u, hu, nrH_dp f g u (hk u hu)⟩⟩
        cases g with
        | zero =>
          unfold dpS
          rw [rkg, rk0]
          exact Int.le_refl _
        | succ g =>
          unfold dpS
          rw [rkg, rk0, kd_gp (fun t ht => (hE t ht).1), if_pos (by omega), if_pos (by omega)]
          have m := foldl_max (g := dpS g) (kd T) 0
          have := foldl_le (g := dpS g) (b := (kd T).foldl (fun a k => max a (dpS g k)) 0) _ 0 m.1 (fun t ht => by
            obtain ⟨u, hu, l⟩ := (hE t ht).2 g
            have := m.2 u hu
            omega)
          omega
      · rw [if_neg h4]
        exact Int.le_refl _
theorem inH_key {h : Bool} {t : List ND} {q key : List Int} : ∀ E : List (List ND), (∃ u ∈ inH h t q E, rq u = key) ↔ (q = key ∨ ∃ u ∈ E, rq u = key) := by
  intro E
  have base : ∀ (E : List (List ND)) (F : List (List ND)), (F = insK t q E ∨ F = kpK t q E) → ((∃ u ∈ F, rq u = key) ↔ (q = key ∨ ∃ u ∈ E, rq u = key)) := by
    intro E
    induction E with
    | nil =>
      intro F hF
      have : F = [kyT t q] := by rcases hF with e | e <;> exact e
      rw [this]
      simp [rq_ky]
    | cons u E ih =>
      intro F hF
      by_cases c : rq u = q
      · have : F = kyT t q :: E ∨ F = u :: E := by
          rcases hF with e | e
          · left; rw [e]; exact if_pos c
          · right; rw [e]; exact if_pos c
        rcases this with e | e
        · rw [e]
          simp [rq_ky, c]
        · rw [e]
          simp only [List.mem_cons, exists_eq_or_imp, c]
          refine ⟨fun z => Or.inr z, fun z => z.elim Or.inl id⟩
      · have : ∃ F', (F' = insK t q E ∨ F' = kpK t q E) ∧ F = u :: F' := by
          rcases hF with e | e
          · exact ⟨_, Or.inl rfl, by rw [e]; exact if_neg c⟩
          · exact ⟨_, Or.inr rfl, by rw [e]; exact if_neg c⟩
        obtain ⟨F', hF', e⟩ := this
        rw [e]
        have := ih F' hF'
        simp only [List.mem_cons, exists_eq_or_imp, this]
        constructor
        · rintro (z | z | z)
          · exact Or.inr (Or.inl z)
          · exact Or.inl z
          · exact Or.inr (Or.inr z)
        · rintro (z | z | z)
          · exact Or.inr (Or.inl z)
          · exact Or.inl z
          · exact Or.inr (Or.inr z)
  cases h with
  | true => exact base E _ (Or.inl rfl)
  | false => exact base E _ (Or.inr rfl)
theorem foldH_key {h : Bool} {g : List ND → List ND} {key : List Int} : ∀ (L E : List (List ND)), (∃ u ∈ L.foldl (fun E t => inH h (g t) (rq t) E) E, rq u = key) ↔ ((∃ u ∈ L, rq u = key) ∨ ∃ u ∈ E, rq u = key)
  | [], E => by simp
  | t :: L, E => by
    rw [List.foldl_cons, foldH_key L, inH_key]
    simp only [List.mem_cons, exists_eq_or_imp]
    constructor
    · rintro (z | z | z)
      · exact Or.inl (Or.inr z)
      · exact Or.inl (Or.inl z)
      · exact Or.inr z
    · rintro ((z | z) | z)
      · exact Or.inr (Or.inl z)
      · exact Or.inl z
      · exact Or.inr (Or.inr z)
