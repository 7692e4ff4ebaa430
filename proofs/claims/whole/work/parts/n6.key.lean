/-! THE REFERENCE reads: a KEY -/
theorem rdE_suf {r : List Int} {x : Int} {q : List Int} (h : rdE r = .inr (x, q)) : ∃ B, r = B ++ q := by
  unfold rdE at h
  have tl : ∀ l : List Int, ∃ B, l = B ++ l.tail := fun l => by
    cases l with
    | nil => exact ⟨[], rfl⟩
    | cons a l => exact ⟨[a], rfl⟩
  by_cases c : hdI r = 117
  · rw [if_pos c] at h
    unfold rdH at h
    split at h
    · cases h
    · split at h
      · cases h
      · split at h
        · cases h
        · split at h
          · cases h
          · have e : q = r.tail.tail.tail.tail.tail := ((Prod.mk.inj (Sum.inr.inj h)).2).symm
            obtain ⟨a, ha⟩ := tl r
            obtain ⟨b, hb⟩ := tl r.tail
            obtain ⟨g, hg⟩ := tl r.tail.tail
            obtain ⟨k, hk⟩ := tl r.tail.tail.tail
            obtain ⟨m, hm⟩ := tl r.tail.tail.tail.tail
            refine ⟨a ++ b ++ g ++ k ++ m, ?_⟩
            rw [e, List.append_assoc, ← hm, List.append_assoc, ← hk, List.append_assoc, ← hg, List.append_assoc, ← hb]
            exact ha
  · rw [if_neg c] at h
    split at h
    · cases h
    · have e : q = r.tail := ((Prod.mk.inj (Sum.inr.inj h)).2).symm
      rw [e]
      exact tl r
theorem rdT_suf {m : Nat} : ∀ (f : Nat) (a r : List Int) (z : List Int × List Int), rdT f m a r = .inr z → ∃ A, r = A ++ 34 :: z.2
  | 0, a, r, z, h => by cases h
  | f + 1, a, r, z, h => by
    have h' : (if r = [] then .inl [] else if hdI r = 34 then .inr (a, r.tail) else if m ≤ a.length ∨ hdI r < 32 then .inl r else if hdI r = 92 then bd (rdE r.tail) (fun z => rdT f m (a ++ [z.1]) z.2) else rdT f m (a ++ [hdI r]) r.tail : Rs (List Int × List Int)) = .inr z := h
    cases r with
    | nil => rw [if_pos rfl] at h'; cases h'
    | cons x r =>
      rw [if_neg (by simp)] at h'
      by_cases c1 : hdI (x :: r) = 34
      · rw [if_pos c1] at h'
        have e := Sum.inr.inj h'
        refine ⟨[], ?_⟩
        rw [← e]
        show x :: r = 34 :: r
        rw [show x = 34 from c1]
      · rw [if_neg c1] at h'
        by_cases c2 : m ≤ a.length ∨ hdI (x :: r) < 32
        · rw [if_pos c2] at h'; cases h'
        · rw [if_neg c2] at h'
          by_cases c3 : hdI (x :: r) = 92
          · rw [if_pos c3] at h'
            cases hE : rdE (x :: r).tail with
            | inl q => rw [hE] at h'; cases h'
            | inr y =>
              rw [hE] at h'
              obtain ⟨B, hB⟩ := rdE_suf (x := y.1) (q := y.2) hE
              obtain ⟨A, hA⟩ := rdT_suf f _ _ z h'
              refine ⟨x :: (B ++ A), ?_⟩
              have hB' : r = B ++ y.2 := hB
              rw [List.cons_append, List.append_assoc, ← hA, ← hB']
          · rw [if_neg c3] at h'
            obtain ⟨A, hA⟩ := rdT_suf f _ _ z h'
            exact ⟨x :: A, by rw [List.cons_append, ← hA]; rfl⟩
/-- the KEY that was read -/
def KyS (S : GS) (q : List Int) : Prop := q.length ≤ 12 ∧ S.1 500 22 = (q.length : Int) ∧ (∀ i, i < q.length → S.1 512 i = q.getD i 0) ∧ ∀ x ∈ q, 0 ≤ x ∧ x < 256
abbrev kyP : Nat → Nat → Prop := fun c j => (c = 500 ∧ (j = 13 ∨ j = 16 ∨ j = 22)) ∨ c = 507 ∨ c = 512
/-- what a KEY comes to, of those that are there -/
def rdQ (how : Int) (D : List Int → Bool) (r : List Int) : Rs (List Int × List Int) := if hdI r ≠ 34 then .inl r else bd (rdT 40000 12 [] r.tail) (fun z => if how = 0 ∧ D z.1 = true then .inl (34 :: z.2) else if hdI (skB z.2) = 58 then .inr (z.1, (skB z.2).tail) else .inl (skB z.2))
def RqQ (t : List Int) (o : Rs (List Int × List Int)) (S : GS) (x : Int) (S1 : GS) : Prop := (match o with
  | .inl q => x = 0 ∧ RdS S1 t q ∧ (S1.1 500 22 = S.1 500 22 ∨ (0 ≤ S1.1 500 22 ∧ S1.1 500 22 ≤ 12))
  | .inr z => x = 1 ∧ RdS S1 t z.2 ∧ KyS S1 z.1) ∧ FC kyP S S1
section RKY
variable {S0 : GS} {d : Nat} {t : List Int}
theorem ky_198 {key : List Int} (hd : 2 ≤ d) : ∀ (q : List Int) (S : GS), RdS S t q → KyS S key → FC kyP S0 S → Ev (fun n => f_X12_readsKey n d 198 S []) (fun x S1 => RqQ t (if hdI (skB q) = 58 then .inr (key, (skB q).tail) else .inl (skB q)) S0 x S1) := by
  intro q
  induction q with
  | nil =>
    intro S h hk hf
    refine ev_up (fun n => e_X12_readsKey_198) ?_
    unfold b_X12_readsKey_198
    refine ev_gg (by first | omega | (constructor <;> omega)) ?_
    refine ev_gcr (q_isBlank (d := d - 1) h) ?_
    rw [if_neg (by decide)]
    refine ev_gg (by decide) ?_
    refine ev_ite (fun _ => ?_) (fun z => by omega)
    refine ev_gcr (q_sign (d := d - 1) h) ?_
    refine ev_gg (by decide) ?_
    refine ev_ite (fun z => absurd z (by decide)) (fun _ => ?_)
    exact ev_ret ⟨⟨rfl, h, Or.inr (by have := hk.1; rw [hk.2.1]; constructor <;> omega)⟩, hf⟩
  | cons x q ih =>
    intro S h hk hf
    have hr := rd_hd h
    have es : skB (x :: q) = if x = 32 ∨ x = 10 then skB q else x :: q := rfl
    rw [es]
    refine ev_up (fun n => e_X12_readsKey_198) ?_
    unfold b_X12_readsKey_198
    refine ev_gg (by first | omega | (constructor <;> omega)) ?_
    refine ev_gcr (q_isBlank (d := d - 1) h) ?_
    by_cases c : x = 32 ∨ x = 10
    · rw [if_pos c, if_pos (show hdI (x :: q) = 32 ∨ hdI (x :: q) = 10 from c)]
      refine ev_gg (by decide) ?_
      refine ev_ite (fun z => by omega) (fun _ => ?_)
      refine ev_gv ?_
      refine ev_gv ?_
      refine ev_gv ?_
      have f1 : FC (fun c j => c = 500 ∧ j = 16) S (gI S 500 16 (S.1 500 16 + 1)) := fc_gI ⟨rfl, rfl⟩
      exact ih _ (rd_on h (by simp)) ⟨hk.1, by rw [fc_i f1 (by omega)]; exact hk.2.1, fun i hi => by rw [fc_i f1 (by omega)]; exact hk.2.2.1 i hi, hk.2.2.2⟩ (fc_tr hf (fc_mono f1 (fun c j z => by omega)))
    · rw [if_neg c, if_neg (show ¬ (hdI (x :: q) = 32 ∨ hdI (x :: q) = 10) from c)]
      refine ev_gg (by decide) ?_
      refine ev_ite (fun _ => ?_) (fun z => by omega)
      refine ev_gcr (q_sign (d := d - 1) h) ?_
      refine ev_gg (by first | omega | (constructor <;> omega)) ?_
      refine ev_ite (fun z => ?_) (fun z => ?_)
      · rw [if_pos z]
        refine ev_gv ?_
        refine ev_gv ?_
        refine ev_gv ?_
        have f1 : FC (fun c j => c = 500 ∧ j = 16) S (gI S 500 16 (S.1 500 16 + 1)) := fc_gI ⟨rfl, rfl⟩
        exact ev_ret ⟨⟨rfl, rd_on h (by simp), hk.1, by rw [fc_i f1 (by omega)]; exact hk.2.1, fun i hi => by rw [fc_i f1 (by omega)]; exact hk.2.2.1 i hi, hk.2.2.2⟩, fc_tr hf (fc_mono f1 (fun c j z => by omega))⟩
      · rw [if_neg z]
        exact ev_ret ⟨⟨rfl, h, Or.inr (by have := hk.1; rw [hk.2.1]; constructor <;> omega)⟩, hf⟩
theorem q_readsKey {S : GS} {how : Int} {W : List ND} {Pr : Nat → Int} {g dp : Nat} {D : List Int → Bool} {r : List Int} (hd : 4 ≤ d) (hhow : inr how) (hdp : 1 ≤ dp ∧ dp ≤ 16) (hg : g < W.length) (hM : MD S 40 (some W)) (hP : ∀ j, j < W.length → S.1 501 (6161 * 40 + 61 * j + 1) = Pr j ∧ -1 ≤ Pr j ∧ Pr j ≤ 100) (c20 : S.1 500 20 = (dp : Int)) (c511 : S.1 511 (dp - 1) = (g : Int)) (hD : ∀ key, D key = true ↔ ∃ j, g < j ∧ j < W.length ∧ Pr j = (g : Int) ∧ (W.getD j nd0).2.2.2.2 = key) (h : RdS S t r) : Ev (fun n => f_X12_readsKey n d 0 S [how]) (fun x S1 => RqQ t (rdQ how D r) S x S1) := by
  have hr := rd_hd h
  have lW := md_len hM
  have base : ∀ S1, FC kyP S S1 → MD S1 40 (some W) ∧ (∀ j, j < W.length → S1.1 501 (6161 * 40 + 61 * j + 1) = Pr j) ∧ S1.1 500 20 = (dp : Int) ∧ S1.1 511 (dp - 1) = (g : Int) := fun S1 hf => ⟨mdr_fr hM hf (fun j _ _ => by omega) (by omega) (by omega), fun j hj => by rw [fc_i hf (by omega)]; exact (hP j hj).1, by rw [fc_i hf (by omega)]; exact c20, by rw [fc_i hf (by omega)]; exact c511⟩
  unfold rdQ
  refine ev_up (fun n => e_X12_readsKey_0) ?_
  unfold b_X12_readsKey_0
  refine ev_gg (by first | omega | (constructor <;> omega)) ?_
  refine ev_gcr (q_sign (d := d - 1) h) ?_
  refine ev_gg (by first | omega | (constructor <;> omega)) ?_
  refine ev_ite (fun z => ?_) (fun z => ?_)
  · rw [if_neg (show ¬ hdI r ≠ 34 by omega)]
    refine ev_gc (q_readsText (d := d - 1) (m := 12) (by omega) (by decide) h (rd_ne (by omega))) (fun y S1 q => ?_)
    obtain ⟨q1, f1⟩ := q
    cases hN : rdT 40000 12 [] r.tail with
    | inl q =>
      rw [hN] at q1
      obtain ⟨y0, r1, _⟩ := q1
      subst y0
      refine ev_gg (by decide) ?_
      refine ev_ite (fun z => by omega) (fun _ => ?_)
      exact ev_ret ⟨⟨rfl, r1, Or.inl (fc_i f1 (by omega))⟩, fc_mono f1 (fun c j z => by omega)⟩
    | inr v =>
      rw [hN] at q1
      obtain ⟨y0, r1, a1, w1⟩ := q1
      subst y0
      obtain ⟨key, q⟩ := v
      have a1' : key.length ≤ 12 := a1
      have w1' : WD S1 key := w1
      have r1' : RdS S1 t q := r1
      obtain ⟨A, hA⟩ := rdT_suf 40000 [] r.tail (key, q) hN
      have hA' : r.tail = A ++ 34 :: q := hA
      refine ev_gg (by decide) ?_
      refine ev_ite (fun _ => ?_) (fun z => by omega)
      refine ev_gv ?_
      rw [w1'.1]
      refine ev_gv ?_
      have kb := w1'.2.2.2
      have p198 : ∀ S2, RdS S2 t q → KyS S2 key → FC kyP S S2 → ¬ (how = 0 ∧ D key = true) → Ev (fun n => f_X12_readsKey n d 198 S2 []) (fun x S1 => RqQ t (bd (.inr (key, q) : Rs (List Int × List Int)) (fun z => if how = 0 ∧ D z.1 = true then .inl (34 :: z.2) else if hdI (skB z.2) = 58 then .inr (z.1, (skB z.2).tail) else .inl (skB z.2))) S x S1) := by
        intro S2 r2 k2 f2 nd
        show Ev _ (fun x S1 => RqQ t (if how = 0 ∧ D key = true then .inl (34 :: q) else if hdI (skB q) = 58 then .inr (key, (skB q).tail) else .inl (skB q)) S x S1)
        rw [if_neg nd]
        exact ky_198 (by omega) q S2 r2 k2 f2
      have p74 : ∀ S2, RdS S2 t q → KyS S2 key → FC kyP S S2 → ∀ (u j : Nat), j + u = W.length → g < j → (∀ i, g < i → i < j → ¬ (Pr i = (g : Int) ∧ (W.getD i nd0).2.2.2.2 = key)) → Ev (fun n => f_X12_readsKey n d 74 S2 [how, (g : Int), (j : Int)]) (fun x S1 => RqQ t (bd (.inr (key, q) : Rs (List Int × List Int)) (fun z => if how = 0 ∧ D z.1 = true then .inl (34 :: z.2) else if hdI (skB z.2) = 58 then .inr (z.1, (skB z.2).tail) else .inl (skB z.2))) S x S1) := by
        intro S2 r2 k2 f2
        obtain ⟨m2, pr2, -, -⟩ := base S2 f2
        intro u
        induction u with
        | zero =>
          intro j hj hgj no
          refine ev_up (fun n => e_X12_readsKey_74) ?_
          unfold b_X12_readsKey_74
          refine ev_gg (by decide) ?_
          refine ev_gv ?_
          rw [show (40 : Int).toNat = 40 from rfl, m2.2.1]
          refine ev_gg (by first | omega | (constructor <;> omega)) ?_
          refine ev_gg (by first | omega | (constructor <;> omega)) ?_
          refine ev_ite (fun _ => ?_) (fun z => by omega)
          refine p198 S2 r2 k2 f2 (fun y => ?_)
          obtain ⟨i, i1, i2, i3, i4⟩ := (hD key).mp y.2
          exact no i i1 (by omega) ⟨i3, i4⟩
        | succ u ih =>
          intro j hj hgj no
          have jl : j < W.length := by omega
          have cr := (m2.2.2.2.1 j jl).1
          have nw := m2.2.2.2.2 _ (nd_mem jl)
          have pj := hP j jl
          refine ev_up (fun n => e_X12_readsKey_74) ?_
          unfold b_X12_readsKey_74
          refine ev_gg (by decide) ?_
          refine ev_gv ?_
          rw [show (40 : Int).toNat = 40 from rfl, m2.2.1]
          refine ev_gg (by first | omega | (constructor <;> omega)) ?_
          refine ev_gg (by first | omega | (constructor <;> omega)) ?_
          refine ev_ite (fun z => by omega) (fun _ => ?_)
          refine ev_gg (hhow) ?_
          refine ev_ite (fun z => ?_) (fun z => ?_)
          · exact p198 S2 r2 k2 f2 (fun y => z y.1)
          · have h0 : how = 0 := by omega
            have p175 : ∀ s : Int, s = (if Pr j = (g : Int) ∧ (W.getD j nd0).2.2.2.2 = key then 1 else 0) → Ev (fun n => f_X12_readsKey n d 175 S2 [how, (g : Int), (j : Int), s]) (fun x S1 => RqQ t (bd (.inr (key, q) : Rs (List Int × List Int)) (fun z => if how = 0 ∧ D z.1 = true then .inl (34 :: z.2) else if hdI (skB z.2) = 58 then .inr (z.1, (skB z.2).tail) else .inl (skB z.2))) S x S1) := by
              intro s hs
              by_cases c : Pr j = (g : Int) ∧ (W.getD j nd0).2.2.2.2 = key
              · rw [if_pos c] at hs
                subst hs
                have dk := (hD key).mpr ⟨j, hgj, jl, c.1, c.2⟩
                show Ev _ (fun x S1 => RqQ t (if how = 0 ∧ D key = true then .inl (34 :: q) else if hdI (skB q) = 58 then .inr (key, (skB q).tail) else .inl (skB q)) S x S1)
                rw [if_pos ⟨h0, dk⟩]
                refine ev_up (fun n => e_X12_readsKey_175) ?_
                unfold b_X12_readsKey_175
                refine ev_gg (by decide) ?_
                refine ev_ite (fun z => by omega) (fun _ => ?_)
                refine ev_gv ?_
                refine ev_gv ?_
                refine ev_gv ?_
                have f3 : FC (fun c j => c = 500 ∧ j = 16) S2 (gI S2 500 16 (S2.1 500 16 - 1)) := fc_gI ⟨rfl, rfl⟩
                refine ev_ret ⟨⟨rfl, ?_, Or.inr (by rw [fc_i f3 (by omega), k2.2.1]; constructor <;> omega)⟩, fc_tr f2 (fc_mono f3 (fun c j z => by omega))⟩
                obtain ⟨b1, b2, b3, p, p1, p2, p3⟩ := r2
                obtain ⟨d1, d2, d3, p0, e1, e2, e3⟩ := h
                have l3 := congrArg List.length p3
                have l0 := congrArg List.length e3
                have lA := congrArg List.length hA'
                rw [List.length_drop] at l3 l0
                rw [List.length_append, List.length_cons, List.length_tail] at lA
                refine ⟨by rw [fc_i f3 (by omega)]; exact b1, b2, fun i hi => by rw [fc_i f3 (by omega)]; exact b3 i hi, p - 1, by omega, by rw [gI_a, p2]; omega, ?_⟩
                have ep : p - 1 = p0 + (1 + A.length) := by omega
                rw [ep, ← List.drop_drop, e3, ← List.drop_drop, List.drop_one, hA', List.drop_left']
                rfl
              · rw [if_neg c] at hs
                subst hs
                refine ev_up (fun n => e_X12_readsKey_175) ?_
                unfold b_X12_readsKey_175
                refine ev_gg (by decide) ?_
                refine ev_ite (fun _ => ?_) (fun z => by omega)
                refine ev_gv ?_
                rw [show (j : Int) + 1 = ((j + 1 : Nat) : Int) by omega]
                refine ih (j + 1) (by omega) (by omega) (fun i i1 i2 => ?_)
                by_cases e : i = j
                · rw [e]; exact c
                · exact no i i1 (by omega)
            have p126 : ∀ (v i : Nat), i + v = key.length → Pr j = (g : Int) → (W.getD j nd0).2.2.2.2.length = key.length → (∀ k, k < i → (W.getD j nd0).2.2.2.2.getD k 0 = key.getD k 0) → Ev (fun n => f_X12_readsKey n d 126 S2 [how, (g : Int), (j : Int), 1, (i : Int)]) (fun x S1 => RqQ t (bd (.inr (key, q) : Rs (List Int × List Int)) (fun z => if how = 0 ∧ D z.1 = true then .inl (34 :: z.2) else if hdI (skB z.2) = 58 then .inr (z.1, (skB z.2).tail) else .inl (skB z.2))) S x S1) := by
              intro v
              induction v with
              | zero =>
                intro i hi hpr hlen heq
                have ek : (W.getD j nd0).2.2.2.2 = key := ext_gD hlen (fun k hk => heq k (by omega))
                refine ev_up (fun n => e_X12_readsKey_126) ?_
                unfold b_X12_readsKey_126
                refine ev_gv ?_
                rw [k2.2.1]
                refine ev_gg (by first | omega | (constructor <;> omega)) ?_
                refine ev_gg (by first | omega | (constructor <;> omega)) ?_
                refine ev_ite (fun _ => ?_) (fun z => by omega)
                exact p175 1 (by rw [if_pos ⟨hpr, ek⟩])
              | succ v ihv =>
                intro i hi hpr hlen heq
                have kr := k2.2.2.2 _ (getD_in (q := key) (t := i) (by omega))
                have nr := nw.2.2.2.1.2 _ (getD_in (q := (W.getD j nd0).2.2.2.2) (t := i) (by omega))
                refine ev_up (fun n => e_X12_readsKey_126) ?_
                unfold b_X12_readsKey_126
                refine ev_gv ?_
                rw [k2.2.1]
                refine ev_gg (by first | omega | (constructor <;> omega)) ?_
                refine ev_gg (by first | omega | (constructor <;> omega)) ?_
                refine ev_ite (fun z => by omega) (fun _ => ?_)
                refine ev_gg (by decide) ?_
                refine ev_ite (fun z => by omega) (fun _ => ?_)
                refine ev_gv ?_
                refine ev_gg (by first | omega | (constructor <;> omega)) ?_
                refine ev_gcr (q_part (d := d - 1) (k := 40) (i := (j : Int)) (w := 6 + (i : Int)) (6161 * 40 + 61 * j + 6 + i) (by omega) (by omega) (by omega)) ?_
                rw [cr.2.2.1 i (by omega)]
                refine ev_gg (by first | omega | (constructor <;> omega)) ?_
                refine ev_gv ?_
                rw [Int.toNat_natCast, k2.2.2.1 i (by omega)]
                refine ev_gg (by first | omega | (constructor <;> omega)) ?_
                refine ev_gg (by first | omega | (constructor <;> omega)) ?_
                refine ev_ite (fun y => ?_) (fun y => ?_)
                · refine ev_gv ?_
                  rw [show (i : Int) + 1 = ((i + 1 : Nat) : Int) by omega]
                  have ne : ¬ (Pr j = (g : Int) ∧ (W.getD j nd0).2.2.2.2 = key) := fun e => y (by rw [e.2])
                  refine ev_up (fun n => e_X12_readsKey_126) ?_
                  unfold b_X12_readsKey_126
                  refine ev_gv ?_
                  rw [k2.2.1]
                  refine ev_gg (by first | omega | (constructor <;> omega)) ?_
                  refine ev_gg (by first | omega | (constructor <;> omega)) ?_
                  refine ev_ite (fun _ => ?_) (fun _ => ?_)
                  · exact p175 0 (by rw [if_neg ne])
                  · refine ev_gg (by decide) ?_
                    refine ev_ite (fun _ => ?_) (fun z => by omega)
                    exact p175 0 (by rw [if_neg ne])
                · refine ev_gv ?_
                  rw [show (i : Int) + 1 = ((i + 1 : Nat) : Int) by omega]
                  refine ihv (i + 1) (by omega) hpr hlen (fun k hk => ?_)
                  by_cases e : k = i
                  · rw [e]; omega
                  · exact heq k (by omega)
            have no126 : ¬ (Pr j = (g : Int) ∧ (W.getD j nd0).2.2.2.2 = key) → Ev (fun n => f_X12_readsKey n d 126 S2 [how, (g : Int), (j : Int), 0, 0]) (fun x S1 => RqQ t (bd (.inr (key, q) : Rs (List Int × List Int)) (fun z => if how = 0 ∧ D z.1 = true then .inl (34 :: z.2) else if hdI (skB z.2) = 58 then .inr (z.1, (skB z.2).tail) else .inl (skB z.2))) S x S1) := by
              intro ne
              refine ev_up (fun n => e_X12_readsKey_126) ?_
              unfold b_X12_readsKey_126
              refine ev_gv ?_
              rw [k2.2.1]
              refine ev_gg (by decide) ?_
              refine ev_gg (by first | omega | (constructor <;> omega)) ?_
              refine ev_ite (fun _ => ?_) (fun _ => ?_)
              · exact p175 0 (by rw [if_neg ne])
              · refine ev_gg (by decide) ?_
                refine ev_ite (fun _ => ?_) (fun z => by omega)
                exact p175 0 (by rw [if_neg ne])
            refine ev_gg (by first | omega | (constructor <;> omega)) ?_
            refine ev_gcr (q_part (d := d - 1) (k := 40) (i := (j : Int)) (w := 1) (6161 * 40 + 61 * j + 1) (by omega) (by omega) (by omega)) ?_
            rw [pr2 j jl]
            refine ev_gg (by first | omega | (constructor <;> omega)) ?_
            refine ev_gg (by first | omega | (constructor <;> omega)) ?_
            refine ev_ite (fun y => ?_) (fun y => ?_)
            · exact no126 (fun e => y e.1)
            · refine ev_gcr (q_part (d := d - 1) (k := 40) (i := (j : Int)) (w := 5) (6161 * 40 + 61 * j + 5) (by omega) (by omega) (by omega)) ?_
              rw [cr.2.1]
              refine ev_gv ?_
              rw [k2.2.1]
              have nl := nw.2.2.2.1.1
              refine ev_gg (by first | omega | (constructor <;> omega)) ?_
              refine ev_gg (by first | omega | (constructor <;> omega)) ?_
              refine ev_ite (fun y2 => ?_) (fun y2 => ?_)
              · exact no126 (fun e => y2 (by rw [e.2]))
              · exact p126 key.length 0 (by omega) (by omega) (by omega) (fun k hk => absurd hk (Nat.not_lt_zero k))
      have lp : ∀ (v i : Nat) (S2 : GS), i + v = key.length → FC kyP S S2 → RdS S2 t q → WD S2 key → S2.1 500 22 = (key.length : Int) → (∀ k, k < i → S2.1 512 k = key.getD k 0) → Ev (fun n => f_X12_readsKey n d 32 S2 [how, (i : Int)]) (fun x S1 => RqQ t (bd (.inr (key, q) : Rs (List Int × List Int)) (fun z => if how = 0 ∧ D z.1 = true then .inl (34 :: z.2) else if hdI (skB z.2) = 58 then .inr (z.1, (skB z.2).tail) else .inl (skB z.2))) S x S1) := by
        intro v
        induction v with
        | zero =>
          intro i S2 hi f2 r2 w2 c22 ck
          obtain ⟨m2, pr2, e20, e511⟩ := base S2 f2
          refine ev_up (fun n => e_X12_readsKey_32) ?_
          unfold b_X12_readsKey_32
          refine ev_gv ?_
          rw [c22]
          refine ev_gg (by first | omega | (constructor <;> omega)) ?_
          refine ev_gg (by first | omega | (constructor <;> omega)) ?_
          refine ev_ite (fun _ => ?_) (fun z => by omega)
          refine ev_gv ?_
          rw [e20]
          refine ev_gv ?_
          refine ev_gg (by first | omega | (constructor <;> omega)) ?_
          refine ev_gv ?_
          rw [show ((dp : Int) - 1).toNat = dp - 1 by omega, e511]
          refine ev_gv ?_
          rw [show (g : Int) + 1 = ((g + 1 : Nat) : Int) by omega]
          exact p74 S2 r2 ⟨a1', c22, fun k hk => ck k (by omega), kb⟩ f2 (W.length - (g + 1)) (g + 1) (by omega) (by omega) (fun i i1 i2 => by omega)
        | succ v ihv =>
          intro i S2 hi f2 r2 w2 c22 ck
          have f3 : FC (fun c j => c = 512) S2 (gI S2 512 i (key.getD i 0)) := fc_gI rfl
          refine ev_up (fun n => e_X12_readsKey_32) ?_
          unfold b_X12_readsKey_32
          refine ev_gv ?_
          rw [c22]
          refine ev_gg (by first | omega | (constructor <;> omega)) ?_
          refine ev_gg (by first | omega | (constructor <;> omega)) ?_
          refine ev_ite (fun z => by omega) (fun _ => ?_)
          refine ev_gg (by first | omega | (constructor <;> omega)) ?_
          refine ev_gv ?_
          rw [Int.toNat_natCast, w2.2.2.1 i (by omega)]
          refine ev_gg (by first | omega | (constructor <;> omega)) ?_
          refine ev_gv ?_
          refine ev_gv ?_
          rw [show (i : Int) + 1 = ((i + 1 : Nat) : Int) by omega]
          refine ihv (i + 1) _ (by omega) (fc_tr f2 (fc_mono f3 (fun c j z => by omega))) (rd_fr r2 f3 (by omega) (by omega) (fun j => by omega)) (wd_fr w2 f3 (by omega) (fun j => by omega)) (by rw [fc_i f3 (by omega)]; exact c22) (fun k hk => ?_)
          by_cases e : k = i
          · subst e; rw [gI_a]
          · rw [gI_k (by omega)]; exact ck k (by omega)
      have fa : FC (fun c j => c = 500 ∧ j = 22) S1 (gI S1 500 22 (key.length : Int)) := fc_gI ⟨rfl, rfl⟩
      exact lp key.length 0 _ (by omega) (fc_tr (fc_mono f1 (fun c j z => by omega)) (fc_mono fa (fun c j z => by omega))) (rd_fr r1' fa (by omega) (by omega) (fun j => by omega)) (wd_fr w1' fa (by omega) (fun j => by omega)) gI_a (fun k hk => absurd hk (Nat.not_lt_zero k))
  · rw [if_pos z]
    exact ev_ret ⟨⟨rfl, h, Or.inl rfl⟩, fc_rf⟩
end RKY
