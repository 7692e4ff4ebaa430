/-! What is read, like KEYS made one, is a DOCUMENT -/
theorem tzF_last {l : List Int} {f : Nat} : ∀ t, f < tzF l f t → l.getD (tzF l f t - 1) 0 ≠ 48
  | 0, h => by
    have : tzF l f 0 = 0 := rfl
    omega
  | t + 1, h => by
    have e : tzF l f (t + 1) = if f < t + 1 ∧ l.getD t 0 = 48 then tzF l f t else t + 1 := rfl
    by_cases c : f < t + 1 ∧ l.getD t 0 = 48
    · rw [if_pos c] at e
      rw [e] at h ⊢
      exact tzF_last t h
    · rw [if_neg c] at e
      rw [e] at h ⊢
      exact fun z => c ⟨h, z⟩
theorem fg_sub {F G : List Int} (h : fgR F) (hs : ∀ x ∈ G, x ∈ F) : fgR G := fun x hx => h x (hs x hx)
theorem nb_nm {g p : Int} {F : List Int} (hF : fgR F) (hl : F.length ≤ 24) (ok : nmOk F p = 1) : NbOK (nmSg g F) (nmPw F p) := by
  have h0 : nmF F ≤ nmT F ∧ nmT F ≤ F.length := tzF_r F (lzF F) F.length (lzF_le F)
  unfold nmSg
  by_cases c : nmF F = nmT F
  · rw [if_pos c]
    exact Or.inl ⟨rfl, by unfold nmPw; rw [if_pos c]⟩
  · rw [if_neg c]
    have hp : -99 ≤ nmPw F p ∧ nmPw F p ≤ 99 := by
      unfold nmOk at ok
      by_cases c2 : nmF F = nmT F ∨ (-99 ≤ nmPw F p ∧ nmPw F p ≤ 99)
      · rcases c2 with z | z
        · exact absurd z c
        · exact z
      · rw [if_neg c2] at ok
        exact absurd ok (by decide)
    have ll : ((F.take (nmT F)).drop (nmF F)).length = nmT F - nmF F := by rw [List.length_drop, List.length_take]; omega
    have gd : ∀ i, i < nmT F - nmF F → ((F.take (nmT F)).drop (nmF F)).getD i 0 = F.getD (nmF F + i) 0 := fun i hi => by
      rw [List.getD_eq_getElem?_getD, List.getD_eq_getElem?_getD, List.getElem?_drop, List.getElem?_take_of_lt (by omega)]
    refine Or.inr ⟨g, _, rfl, fg_sub hF (fun x hx => List.mem_of_mem_take (List.mem_of_mem_drop hx)), by omega, by omega, ?_, ?_, hp⟩
    · rw [gd 0 (by omega)]
      exact lzF_end F (by have : lzF F = nmF F := rfl; omega)
    · rw [ll, gd _ (by omega)]
      have := tzF_last (l := F) (f := lzF F) F.length (by have a : lzF F = nmF F := rfl; have b : tzF F (lzF F) F.length = nmT F := rfl; omega)
      have e : nmF F + (nmT F - nmF F - 1) = tzF F (lzF F) F.length - 1 := by have b : tzF F (lzF F) F.length = nmT F := rfl; omega
      rw [e]
      exact this
/-- VALUES of ROWS have no KEY -/
def KRw : Nat → List ND → Prop
  | 0, _ => True
  | f + 1, T => (rk T = 4 → ∀ t ∈ kd T, rq t = []) ∧ ∀ t ∈ kd T, KRw f t
/-- a piece that is sound but for like KEYS -/
def RW (T : List ND) : Prop := (TR T ∧ PZL T) ∧ (∀ x ∈ T, NR x ∧ VN x) ∧ ∀ f, KRw f T
theorem krw_ky : ∀ {f : Nat} {T : List ND} {q : List Int}, KRw f (kyT T q) ↔ KRw f T
  | 0, _, _ => Iff.rfl
  | _ + 1, _, _ => Iff.rfl
theorem rw_ky {T : List ND} {q : List Int} (h : RW T) (hq : rng q) (hl : q.length ≤ 12) : RW (kyT T q) := by
  refine ⟨⟨tr_ky h.1.1, pzl_ky h.1.1.2.1 h.1.2⟩, fun x hx => ?_, fun f => krw_ky.mpr (h.2.2 f)⟩
  rcases mem_ky hx with z | z
  · rw [z]
    have := h.2.1 _ (nd_mem h.1.1.2.1)
    exact ⟨nr_Q this.1 hl hq, vn_Q this.2⟩
  · exact h.2.1 x z
theorem rw_kd {T t : List ND} (h : RW T) (ht : t ∈ kd T) : RW t := ⟨kd_tr h.1.1 h.1.2 t ht, fun x hx => h.2.1 x (mem_kd h.1.2 h.1.1.2.1 ht hx), fun f => (h.2.2 (f + 1)).2 t ht⟩
theorem rw_gp {x : ND} {E : List (List ND)} (hx : 4 ≤ x.1) (hn : NR x ∧ VN x) (hE : ∀ t ∈ E, RW t) (h4 : x.1 = 4 → ∀ t ∈ E, rq t = []) (hl : E.flatten.length < 100) : RW (gpN x E E.length) := by
  have hE' : ∀ t ∈ E, TR t ∧ PZL t := fun t ht => (hE t ht).1
  refine ⟨⟨tr_gp hx (fun t ht => (hE' t ht).1), pzl_gp (fun t ht => (hE' t ht).2)⟩, fun y hy => ?_, fun f => ?_⟩
  · unfold gpN at hy
    rcases List.mem_cons.mp hy with z | z
    · rw [z, List.take_length]
      exact ⟨nr_Z hn.1 (by omega), vn_Z hn.2⟩
    · obtain ⟨t, ht, hyt⟩ := List.mem_flatten.mp z
      exact (hE t ht).2.1 y hyt
  · cases f with
    | zero => trivial
    | succ f =>
      have e : kd (gpN x E E.length) = E := kd_gp hE'
      refine ⟨?_, ?_⟩
      · rw [e]; exact h4
      · rw [e]; exact fun t ht => (hE t ht).2.2 f
theorem rw_leaf {x : ND} (hx : x.1 < 4) (hz : x.2.1 = 1) (hn : NR x ∧ VN x) : RW [x] := by
  refine ⟨⟨tr_leaf hz, pzl_one hz⟩, fun y hy => ?_, fun f => ?_⟩
  · simp only [List.mem_cons, List.not_mem_nil, or_false] at hy
    rw [hy]; exact hn
  · cases f with
    | zero => trivial
    | succ f =>
      have e : kd [x] = [] := rfl
      refine ⟨?_, ?_⟩
      · rw [e]; intro _ t ht; cases ht
      · rw [e]; intro t ht; cases ht
/-- a leaf that is read -/
theorem rdNb_vn {r : List Int} (hr : rng r) {z : List ND × List Int} (h : rdNb r = .inr z) : VN (z.1.getD 0 nd0) := by
  unfold rdNb at h
  obtain ⟨z1, h1, h⟩ := bd_inr h
  obtain ⟨z2, h2, h⟩ := bd_inr h
  obtain ⟨z3, h3, h⟩ := bd_inr h
  have r0 : rng (ngS r) := by
    unfold ngS
    split
    · exact rng_tl hr
    · exact hr
  have f0 : fgR [] := fun x hx => by cases hx
  have k1 : fgR z1.1 ∧ z1.1.length ≤ 24 ∧ rng z1.2 := by
    unfold rdN1 at h1
    split at h1
    · cases h1
      exact ⟨fun x hx => by simp only [List.mem_cons, List.not_mem_nil, or_false] at hx; omega, show 1 ≤ 24 by decide, rng_tl r0⟩
    · exact rdF1_ok h1 r0 f0 (by decide)
  have k2 : fgR z2.1 ∧ z2.1.length ≤ 24 ∧ rng z2.2 := by
    unfold rdN2 at h2
    split at h2
    · exact rdF1_ok h2 (rng_tl k1.2.2) k1.1 k1.2.1
    · cases h2
      exact k1
  split at h
  · rename_i ok
    cases h
    exact Or.inr (Or.inr (Or.inl ⟨rfl, nb_nm k2.1 k2.2.1 ok⟩))
  · cases h
theorem leaf_vn {r : List Int} (hr : rng r) {z : List ND × List Int} (h : (if hdI r = 34 then rdTx r else if hdI r = 45 ∨ fgC (hdI r) then rdNb r else rdC r) = .inr z) : RW z.1 := by
  have lf : ∀ o : Rs (List ND × List Int), LfOK o → o = .inr z → VN (z.1.getD 0 nd0) → RW z.1 := fun o ho e hv => by
    obtain ⟨y, h1, h2, h3, h4, h5, h6⟩ := ho z e
    rw [h1] at hv ⊢
    exact rw_leaf h2 h3 ⟨h4, hv⟩
  by_cases c3 : hdI r = 34
  · rw [if_pos c3] at h
    refine lf _ (rdTx_ok hr) h ?_
    unfold rdTx at h
    obtain ⟨a, _, e⟩ := bd_inr h
    have e := Sum.inr.inj e
    subst e
    exact Or.inr (Or.inr (Or.inr (Or.inl ⟨rfl, rfl⟩)))
  rw [if_neg c3] at h
  by_cases c4 : hdI r = 45 ∨ fgC (hdI r)
  · rw [if_pos c4] at h
    exact lf _ (rdNb_ok hr) h (rdNb_vn hr h)
  rw [if_neg c4] at h
  refine lf _ (rdC_ok hr) h ?_
  unfold rdC at h
  by_cases d1 : hdI r = 110
  · rw [if_pos d1] at h
    obtain ⟨a, _, e⟩ := bd_inr h
    have e := Sum.inr.inj e
    subst e
    exact Or.inl ⟨rfl, rfl, rfl⟩
  rw [if_neg d1] at h
  by_cases d2 : hdI r = 116
  · rw [if_pos d2] at h
    obtain ⟨a, _, e⟩ := bd_inr h
    have e := Sum.inr.inj e
    subst e
    exact Or.inr (Or.inl ⟨rfl, Or.inr rfl, rfl⟩)
  rw [if_neg d2] at h
  by_cases d3 : hdI r = 102
  · rw [if_pos d3] at h
    obtain ⟨a, _, e⟩ := bd_inr h
    have e := Sum.inr.inj e
    subst e
    exact Or.inr (Or.inl ⟨rfl, Or.inl rfl, rfl⟩)
  rw [if_neg d3] at h
  cases h
def GRW (g : Nat → List Int → Rs RV) : Prop := ∀ b r z, g b r = .inr z → rng r → RW z.1
theorem rdIt_rw {f : Nat} {g : Nat → List Int → Rs RV} (hg : GOK f g) (hw : GRW g) {mp : Bool} {how : Int} {E : List (List ND)} {b : Nat} {r : List Int} {z : RV} (h : rdIt g mp how E b r = .inr z) (hr : rng r) : RW z.1 ∧ (mp = false → rq z.1 = []) := by
  unfold rdIt at h
  cases mp with
  | true =>
    rw [if_pos rfl] at h
    obtain ⟨a, h1, h⟩ := bd_inr h
    obtain ⟨v, h2, h⟩ := bd_inr h
    have e := Sum.inr.inj h
    subst e
    have k := rdKy_ok h1 hr
    exact ⟨rw_ky (hw _ _ _ h2 k.2.2) k.1 k.2.1, fun z => absurd z (by decide)⟩
  | false =>
    rw [if_neg (by decide)] at h
    exact ⟨hw _ _ _ h hr, fun _ => (hg _ _ _ h hr).1.2.1⟩
theorem rdL_rw {f : Nat} {g : Nat → List Int → Rs RV} (hg : GOK f g) (hw : GRW g) {mp : Bool} {how : Int} : ∀ (n : Nat) (E : List (List ND)) (b : Nat) (r : List Int) (z : List (List ND) × Nat × List Int), rdL g mp how n E b r = .inr z → rng r → (∀ T ∈ E, RW T ∧ (mp = false → rq T = [])) → ∀ T ∈ z.1, RW T ∧ (mp = false → rq T = [])
  | 0, E, b, r, z, h, _, _ => by cases h
  | n + 1, E, b, r, z, h, hr, hE => by
    rw [rdL_s] at h
    obtain ⟨v, h1, h⟩ := bd_inr h
    have k := rdIt_rw hg hw h1 hr
    have ok := rdIt_ok hg h1 hr
    have hE2 := snoc_all (p := fun T => RW T ∧ (mp = false → rq T = [])) hE k
    by_cases c : hdI (skB v.2.2) = enD mp
    · rw [if_pos c] at h
      have e := Sum.inr.inj h
      subst e
      exact hE2
    · rw [if_neg c] at h
      by_cases c2 : hdI (skB v.2.2) = 44
      · rw [if_pos c2] at h
        exact rdL_rw hg hw n _ _ _ z h (rng_tl (rng_skB ok.2.2.2)) hE2
      · rw [if_neg c2] at h
        cases h
theorem rdV_rw {how : Int} : ∀ f, GRW (rdV f how)
  | 0 => fun b r z h _ => by cases h
  | f + 1 => fun b r z h hr => by
    have hr' := rng_skB hr
    have okz := rdV_ok (how := how) (f + 1) b r z h hr
    rw [rdV_s] at h
    by_cases c1 : skB r = [] ∨ 100 ≤ b
    · rw [if_pos c1] at h; cases h
    rw [if_neg c1] at h
    by_cases c2 : hdI (skB r) = 91 ∨ hdI (skB r) = 123
    · rw [if_pos c2] at h
      by_cases c3 : f = 0
      · rw [if_pos c3] at h; cases h
      rw [if_neg c3] at h
      unfold rdG at h
      obtain ⟨y, h1, h⟩ := bd_inr h
      have e := Sum.inr.inj h
      subst e
      have hE : ∀ T ∈ y.1, RW T ∧ (decide (hdI (skB r) = 123) = false → rq T = []) := by
        by_cases c4 : hdI (skB (skB r).tail) = enD (decide (hdI (skB r) = 123))
        · rw [if_pos c4] at h1
          have e := Sum.inr.inj h1
          subst e
          exact fun T hT => by cases hT
        · rw [if_neg c4] at h1
          exact rdL_rw (rdV_ok f) (rdV_rw f) 101 [] _ _ y h1 (rng_skB (rng_tl hr')) (fun T hT => by cases hT)
      have tok := okz.1.1
      have fl : y.1.flatten.length < 100 := by
        have h2 := okz.1.2.2.2
        have h3 := okz.1.2.2.1
        have h4 : (gpN (ndK (if decide (hdI (skB r) = 123) = true then 5 else 4)) y.1 y.1.length).length = 1 + y.1.flatten.length := by
          unfold gpN
          rw [List.length_cons]
          omega
        have h3' : y.2.1 = b + (gpN (ndK (if decide (hdI (skB r) = 123) = true then 5 else 4)) y.1 y.1.length).length := h3
        have h2' : y.2.1 ≤ 100 := h2
        omega
      refine rw_gp ?_ ⟨?_, ?_⟩ (fun t ht => (hE t ht).1) (fun h4 t ht => (hE t ht).2 ?_) fl
      · show (4 : Int) ≤ if decide (hdI (skB r) = 123) = true then 5 else 4
        split <;> decide
      · refine nr_mk ?_ (by decide) (by decide) (fun y hy => by cases hy)
        split <;> decide
      · refine Or.inr (Or.inr (Or.inr (Or.inr ⟨?_, rfl, rfl⟩)))
        show (4 : Int) ≤ if decide (hdI (skB r) = 123) = true then 5 else 4
        split <;> decide
      · have h4' : (if decide (hdI (skB r) = 123) = true then (5 : Int) else 4) = 4 := h4
        by_cases c5 : decide (hdI (skB r) = 123) = true
        · rw [if_pos c5] at h4'
          exact absurd h4' (by decide)
        · simpa using c5
    · rw [if_neg c2] at h
      obtain ⟨y, h1, h⟩ := bd_inr h
      have e := Sum.inr.inj h
      subst e
      exact leaf_vn hr' h1
/-! like KEYS are made one -/
theorem inH_rq {h : Bool} {t : List ND} {q : List Int} : ∀ E : List (List ND), (inH h t q E).map rq = if q ∈ E.map rq then E.map rq else E.map rq ++ [q] := by
  intro E
  cases h with
  | true =>
    show (insK t q E).map rq = _
    induction E with
    | nil => rfl
    | cons u E ih =>
      unfold insK
      by_cases c : rq u = q
      · rw [if_pos c, if_pos (by rw [List.map_cons, c]; exact List.mem_cons_self)]
        rw [List.map_cons, List.map_cons, c]
        rfl
      · rw [if_neg c, List.map_cons, ih, List.map_cons]
        by_cases c2 : q ∈ E.map rq
        · rw [if_pos c2, if_pos (List.mem_cons_of_mem _ c2)]
        · rw [if_neg c2, if_neg (fun z => by rcases List.mem_cons.mp z with y | y; exact c y.symm; exact c2 y)]
          rfl
  | false =>
    show (kpK t q E).map rq = _
    induction E with
    | nil => rfl
    | cons u E ih =>
      unfold kpK
      by_cases c : rq u = q
      · rw [if_pos c, if_pos (by rw [List.map_cons, c]; exact List.mem_cons_self)]
      · rw [if_neg c, List.map_cons, ih, List.map_cons]
        by_cases c2 : q ∈ E.map rq
        · rw [if_pos c2, if_pos (List.mem_cons_of_mem _ c2)]
        · rw [if_neg c2, if_neg (fun z => by rcases List.mem_cons.mp z with y | y; exact c y.symm; exact c2 y)]
          rfl
theorem foldH_nodup {h : Bool} {g : List ND → List ND} : ∀ (L E : List (List ND)), (E.map rq).Nodup → ((L.foldl (fun E t => inH h (g t) (rq t) E) E).map rq).Nodup
  | [], E, hE => hE
  | t :: L, E, hE => by
    refine foldH_nodup L _ ?_
    rw [inH_rq]
    split
    · exact hE
    · rename_i c
      rw [List.nodup_append]
      refine ⟨hE, List.nodup_cons.mpr ⟨List.not_mem_nil, List.nodup_nil⟩, fun a ha b hb => ?_⟩
      rw [List.mem_singleton] at hb
      subst hb
      exact fun e => c (e ▸ ha)
theorem foldH_all2 {h : Bool} {p r : List ND → Prop} {g : List ND → List ND} (hg : ∀ t, p t → r (kyT (g t) (rq t))) : ∀ (L E : List (List ND)), (∀ T ∈ E, r T) → (∀ T ∈ L, p T) → ∀ T ∈ L.foldl (fun E t => inH h (g t) (rq t) E) E, r T
  | [], E, hE, _ => hE
  | t :: L, E, hE, hL => by
    refine foldH_all2 hg L _ (fun T hT => ?_) (fun T hT => hL T (List.mem_cons_of_mem _ hT))
    rcases inH_mem hT with q | q
    · rw [q]; exact hg _ (hL t List.mem_cons_self)
    · exact hE T q
theorem rw_one {T : List ND} (h : RW T) (hk : rk T < 4) : T = [T.getD 0 nd0] ∧ (T.getD 0 nd0).2.1 = 1 := by
  have h1 := h.1.1.2.1
  have z1 : nz T 0 = 1 := h.1.1.1.2.2 0 (by omega) hk
  have z2 : nz T 0 = T.length := h.1.1.2.2
  refine ⟨?_, z1⟩
  match T, h1, z1, z2 with
  | [x], _, _, _ => rfl
  | x :: y :: l, _, z1, z2 => rw [z1] at z2; simp at z2
theorem nrH_sdc {h : Bool} : ∀ (f : Nat) (T : List ND), RW T → (∀ g, dpS g T ≤ (f : Int)) → T.length ≤ 100 → SDC (nrH h f T)
  | 0, T, hT, hd, hl => by
    have hk : rk T < 4 := by
      by_cases q : 4 ≤ rk T
      · have := hd 0
        unfold dpS at this
        rw [if_pos q] at this
        omega
      · omega
    obtain ⟨e, z⟩ := rw_one hT hk
    show SDC T
    rw [e]
    exact sdc_leaf hk z (hT.2.1 _ (nd_mem hT.1.1.2.1))
  | f + 1, T, hT, hd, hl => by
    rw [nrH_s]
    have hk := kd_tr hT.1.1 hT.1.2
    have n0 := hT.2.1 _ (nd_mem hT.1.1.2.1)
    have fl := kd_flat hT.1.2 hT.1.1.2.1
    have fl2 : T.length = (kd T).flatten.length + 1 := by
      have := congrArg List.length fl
      rw [List.length_cons] at this
      exact this
    have sub : ∀ t ∈ kd T, 4 ≤ rk T → SDC (nrH h f t) ∧ rng (rq t) ∧ (rq t).length ≤ 12 ∧ (1 ≤ (nrH h f t).length ∧ (nrH h f t).length ≤ t.length) := fun t ht q => by
      have hw := rw_kd hT ht
      have tl : t.length ≤ (kd T).flatten.length := by
        clear fl fl2 hd hl hk n0
        generalize kd T = L at ht
        induction L with
        | nil => cases ht
        | cons u L ih =>
          rw [List.flatten_cons, List.length_append]
          rcases List.mem_cons.mp ht with z | z
          · subst z; omega
          · have := ih z; omega
      have dt : ∀ g, dpS g t ≤ (f : Int) := fun g => by
        have := hd (g + 1)
        unfold dpS at this
        rw [if_pos q] at this
        have m := (foldl_max (g := dpS g) (kd T) 0).2 t ht
        omega
      have s := nrH_sdc (h := h) f t hw dt (by omega)
      have nt := (hw.2.1 _ (nd_mem hw.1.1.2.1)).1
      exact ⟨s, nt.2.2.2.2.2.2.2.2.2, nt.2.2.2.2.2.2.2.2.1, s.1.1.2.1, nrH_len (h := h) f t hw.1⟩
    by_cases h5 : rk T = 5
    · rw [if_pos h5]
      have hE := foldH_all2 (h := h) (p := fun t => t ∈ kd T) (r := fun t => SDC t) (g := nrH h f) (fun t ht => by
        have s := sub t ht (by omega)
        exact sdc_ky s.1 s.2.1 s.2.2.1) (kd T) [] (fun T hT => by cases hT) (fun t ht => ht)
      have hln := foldH_len (h := h) (g := nrH h f) (kd T) [] (fun t ht => (sub t ht (by omega)).2.2.2)
      refine sdc_gp (by show 4 ≤ rk T; omega) n0 hE (fun _ => foldH_nodup _ _ List.nodup_nil) (fun z => by have z' : rk T = 4 := z; omega) ?_
      have z0 : ([] : List (List ND)).flatten.length = 0 := rfl
      omega
    · rw [if_neg h5]
      by_cases h4 : rk T = 4
      · rw [if_pos h4]
        refine sdc_gp (by show 4 ≤ rk T; omega) n0 (fun t ht => ?_) (fun z => absurd z h5) (fun _ t ht => ?_) ?_
        · obtain ⟨u, hu, rfl⟩ := List.mem_map.mp ht
          exact (sub u hu (by omega)).1
        · obtain ⟨u, hu, rfl⟩ := List.mem_map.mp ht
          rw [(nrH_tr (h := h) f u (hk u hu)).2]
          exact (hT.2.2 1).1 h4 u hu
        · have : ((kd T).map (nrH h f)).flatten.length ≤ (kd T).flatten.length := by
            have sb := fun t ht => (sub t ht (by omega)).2.2.2.2
            clear fl fl2 hd hl hk n0 sub
            generalize kd T = L at sb
            induction L with
            | nil => exact Nat.le_refl _
            | cons u L ih =>
              rw [List.map_cons, List.flatten_cons, List.flatten_cons, List.length_append, List.length_append]
              have := ih (fun t ht => sb t (List.mem_cons_of_mem _ ht))
              have := sb u List.mem_cons_self
              omega
          omega
      · rw [if_neg h4]
        have hk4 : rk T < 4 := by
          have := n0.1.2.1
          have : rk T ≤ 5 := this
          omega
        obtain ⟨e, z⟩ := rw_one hT hk4
        rw [e]
        exact sdc_leaf hk4 z n0
theorem rdA_doc {how : Int} {s : List Int} {T : List ND} {h : Bool} (e : rdA how s = .inr T) (hs : rng s) : DOC (nrH h 13 T) ∧ RW T ∧ T.length ≤ 100 ∧ (∀ g, dpS g T ≤ 12) ∧ rq T = [] := by
  unfold rdA at e
  obtain ⟨z, h1, e⟩ := bd_inr e
  by_cases c : skB z.2.2 = []
  · rw [if_pos c] at e
    have e := Sum.inr.inj e
    subst e
    have ok := (rdV_ok 13 0 s z h1 hs).1
    have rw0 := rdV_rw 13 0 s z h1 hs
    have l0 : z.1.length ≤ 100 := by
      have a := ok.2.2.1
      have b := ok.2.2.2
      omega
    have d12 : ∀ g, dpS g z.1 ≤ 12 := fun g => by
      have := ok.1.2.2 g
      omega
    refine ⟨⟨nrH_sdc 13 z.1 rw0 (fun g => by have := d12 g; omega) l0, fun g => Int.le_trans (nrH_dp 13 g z.1 rw0.1) (d12 g), Nat.le_trans (nrH_len 13 z.1 rw0.1) l0, ?_⟩, rw0, l0, d12, ok.2.1⟩
    rw [(nrH_tr 13 z.1 rw0.1).2]
    exact ok.2.1
  · rw [if_neg c] at e
    cases e
