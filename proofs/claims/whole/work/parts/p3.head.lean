/-! THE REFERENCE reads: a VALUE begins -/
theorem md_pushI {S S1 : GS} {K m : Nat} {W : List ND} {x : ND} (h : MD S K (some W)) (hm : W.length = m) (hl : m < 100) (hx : NW x) (hc : CR S1 (6161 * K + 61 * m) x ∧ S1.1 501 (6161 * K + 61 * m + 3) = (x.2.1 : Int)) (h1 : S1.1 502 K = ((m + 1 : Nat) : Int)) (h2 : S1.2.1 500 5 = false) (hf : ∀ j, 6161 * K ≤ j → j < 6161 * K + 61 * m → S1.1 501 j = S.1 501 j) : MD S1 K (some (W ++ [x])) := by
  subst hm
  obtain ⟨g1, g2, g3, g4, g5⟩ := h
  refine ⟨h2, by rw [h1, List.length_append, List.length_singleton], by rw [List.length_append, List.length_singleton]; omega, fun i hi => ?_, fun y hy => ?_⟩
  · rw [List.length_append, List.length_singleton] at hi
    rw [getD_push]
    by_cases e : i < W.length
    · rw [if_pos e]
      have nw := g5 _ (nd_mem e)
      exact ⟨cr_cp (g4 i e).1 ⟨nw.2.2.1.1, nw.2.2.2.1.1⟩ (fun w hw _ => hf _ (by omega) (by omega)), (hf _ (by omega) (by omega)).trans (g4 i e).2⟩
    · have e2 : i = W.length := by omega
      subst e2
      rw [if_neg e, if_pos rfl]
      exact hc
  · rcases List.mem_append.mp hy with z | z
    · exact g5 y z
    · rw [List.mem_singleton] at z
      subst z
      exact hx
/-- the last group that is open -/
def tpN (St : List Nat) : Nat := St.getD (St.length - 1) 0
def tpS (St : List Nat) : Int := if St = [] then -1 else (tpN St : Int)
/-- one VALUE more for it -/
def upT (W : List ND) (St : List Nat) : List ND := if St = [] then W else W.set (tpN St) (wZ (W.getD (tpN St) nd0) ((W.getD (tpN St) nd0).2.1 + 1))
abbrev hdP : Nat → Nat → Prop := fun c j => doP 40 c j ∨ c = 507 ∨ c = 510 ∨ c = 511 ∨ (c = 500 ∧ (j = 13 ∨ j = 16 ∨ j = 20))
abbrev rsP : Nat → Nat → Prop := fun c j => doP 40 c j ∨ c = 507 ∨ c = 510 ∨ c = 511 ∨ c = 512 ∨ (c = 500 ∧ (j = 13 ∨ j = 16 ∨ j = 20 ∨ j = 22))
def StS (S : GS) (St : List Nat) (n : Nat) : Prop := S.1 500 20 = (St.length : Int) ∧ St.length ≤ 12 ∧ ∀ i, i < St.length → S.1 511 i = (St.getD i 0 : Int) ∧ St.getD i 0 < n
def PrS (S : GS) (Pr : Nat → Int) (n : Nat) : Prop := ∀ j, j < n → S.1 501 (6161 * 40 + 61 * j + 1) = Pr j ∧ -1 ≤ Pr j ∧ Pr j ≤ 100
def KeS (S : GS) (W : List ND) (St : List Nat) (key : List Int) : Prop := if St ≠ [] ∧ (W.getD (tpN St) nd0).1 = 5 then KyS S key else key = []
/-- how reading goes on behind a VALUE's first signs -/
def sbN (k : Int) : Int := if k = 4 then 1 else if k = 5 then 2 else 4
theorem kaN_le (x : Int) : kaN x ≤ 5 := by
  unfold kaN
  repeat' split
  all_goals decide
theorem rdB_kd {r : List Int} {z : List ND × List Int} (h : rdB r = .inr z) (hk : 0 ≤ kaN (hdI r)) (hr : rng r) : (z.1.getD 0 nd0).1 = kaN (hdI r) ∧ NR (z.1.getD 0 nd0) ∧ rng z.2 ∧ (z.1.getD 0 nd0).2.1 = 1 ∧ (z.1.getD 0 nd0).2.2.2.2 = [] ∧ z.1 = [z.1.getD 0 nd0] := by
  have lf : ∀ o : Rs (List ND × List Int), LfOK o → o = .inr z → NR (z.1.getD 0 nd0) ∧ rng z.2 ∧ (z.1.getD 0 nd0).2.1 = 1 ∧ (z.1.getD 0 nd0).2.2.2.2 = [] ∧ z.1 = [z.1.getD 0 nd0] := fun o ho e => by
    obtain ⟨y, h1, _, h2, h3, h5, h4⟩ := ho z e
    rw [h1]
    exact ⟨h3, h4, h2, h5, rfl⟩
  unfold rdB at h
  by_cases c1 : hdI r = 91
  · rw [if_pos c1] at h
    have e := Sum.inr.inj h
    subst e
    rw [c1]
    exact ⟨by show (4 : Int) = kaN 91; decide, nr_mk (by decide) (by decide) (by decide) (fun y hy => by cases hy), rng_tl hr, rfl, rfl, rfl⟩
  rw [if_neg c1] at h
  by_cases c2 : hdI r = 123
  · rw [if_pos c2] at h
    have e := Sum.inr.inj h
    subst e
    rw [c2]
    exact ⟨by show (5 : Int) = kaN 123; decide, nr_mk (by decide) (by decide) (by decide) (fun y hy => by cases hy), rng_tl hr, rfl, rfl, rfl⟩
  rw [if_neg c2] at h
  by_cases c3 : hdI r = 34
  · rw [if_pos c3] at h
    refine ⟨?_, lf _ (rdTx_ok hr) h⟩
    rw [c3]
    unfold rdTx at h
    obtain ⟨a, _, e⟩ := bd_inr h
    have e := Sum.inr.inj e
    subst e
    show (3 : Int) = kaN 34
    decide
  rw [if_neg c3] at h
  by_cases c4 : hdI r = 45 ∨ fgC (hdI r)
  · rw [if_pos c4] at h
    refine ⟨?_, lf _ (rdNb_ok hr) h⟩
    have e2 : kaN (hdI r) = 2 := by
      unfold kaN
      rw [if_neg (show ¬ hdI r = 110 by omega), if_neg (show ¬ (hdI r = 116 ∨ hdI r = 102) by omega), if_neg c3, if_neg c1, if_neg c2, if_pos c4]
    rw [e2]
    unfold rdNb at h
    obtain ⟨a, _, h⟩ := bd_inr h
    obtain ⟨a2, _, h⟩ := bd_inr h
    obtain ⟨a3, _, h⟩ := bd_inr h
    by_cases c5 : nmOk a2.1 ((a.1.length : Int) - a2.1.length + a3.1) = 1
    · rw [if_pos c5] at h
      have e := Sum.inr.inj h
      subst e
      rfl
    · rw [if_neg c5] at h
      cases h
  rw [if_neg c4] at h
  refine ⟨?_, lf _ (rdC_ok hr) h⟩
  unfold rdC at h
  by_cases d1 : hdI r = 110
  · rw [if_pos d1] at h
    obtain ⟨a, _, e⟩ := bd_inr h
    have e := Sum.inr.inj e
    subst e
    rw [d1]
    show (0 : Int) = kaN 110
    decide
  rw [if_neg d1] at h
  by_cases d2 : hdI r = 116
  · rw [if_pos d2] at h
    obtain ⟨a, _, e⟩ := bd_inr h
    have e := Sum.inr.inj e
    subst e
    rw [d2]
    show (1 : Int) = kaN 116
    decide
  rw [if_neg d2] at h
  by_cases d3 : hdI r = 102
  · rw [if_pos d3] at h
    obtain ⟨a, _, e⟩ := bd_inr h
    have e := Sum.inr.inj e
    subst e
    rw [d3]
    show (1 : Int) = kaN 102
    decide
  rw [if_neg d3] at h
  cases h
section RHE
variable {S : GS} {d : Nat} {how : Int} {W : List ND} {Pr : Nat → Int} {St : List Nat} {key t r : List Int} {Q : Int → GS → Prop}
theorem rd_pl (h : RdS S t r) : S.1 500 16 = (t.length : Int) - r.length := by
  obtain ⟨_, _, _, p, p1, p2, p3⟩ := h
  have := congrArg List.length p3
  rw [List.length_drop] at this
  omega
theorem ky_fr {P : Nat → Nat → Prop} {S1 : GS} (h : KyS S key) (hf : FC P S S1) (h1 : ¬ P 500 22) (h2 : ∀ j, ¬ P 512 j) : KyS S1 key := ⟨h.1, by rw [fc_i hf h1]; exact h.2.1, fun i hi => by rw [fc_i hf (h2 i)]; exact h.2.2.1 i hi, h.2.2.2⟩
theorem st_push {n b : Nat} {S1 : GS} (h : StS S St n) (hl : St.length < 12) (hb : b < n + 1) (h20 : S1.1 500 20 = (St.length : Int) + 1) (h5 : ∀ i, i < St.length → S1.1 511 i = S.1 511 i) (h6 : S1.1 511 St.length = (b : Int)) : StS S1 (St ++ [b]) (n + 1) := by
  refine ⟨by rw [h20, List.length_append, List.length_singleton]; omega, by rw [List.length_append, List.length_singleton]; omega, fun i hi => ?_⟩
  rw [List.length_append, List.length_singleton] at hi
  by_cases e : i < St.length
  · have eg : (St ++ [b]).getD i 0 = St.getD i 0 := by rw [List.getD_eq_getElem?_getD, List.getD_eq_getElem?_getD, List.getElem?_append_left e]
    rw [eg, h5 i e]
    have := h.2.2 i e
    exact ⟨this.1, by omega⟩
  · have e2 : i = St.length := by omega
    subst e2
    have eg : (St ++ [b]).getD St.length 0 = b := by simp
    rw [eg]
    exact ⟨h6, hb⟩
theorem rs_282 (hd : 6 ≤ d) (hhow : inr how) (hM : MD S 40 (some W)) (hb : W.length < 100) (hP : PrS S Pr W.length) (hSt : StS S St W.length) (hm : St ≠ [] → (W.getD (tpN St) nd0).2.1 ≤ 100) (hK : KeS S W St key) (h : RdS S t r) (hk : 0 ≤ kaN (hdI r)) (h22 : inr (S.1 500 22)) (hg : 4 ≤ kaN (hdI r) → St.length < 12) (nxF : ∀ q S1, rdB r = .inl q → RdS S1 t q → FC hdP S S1 → Q ((t.length : Int) - q.length) S1) (nxS : ∀ z S1, rdB r = .inr z → MD S1 40 (some (upT W St ++ [wQ (wZ (z.1.getD 0 nd0) 0) key])) → PrS S1 (fun j => if j = W.length then tpS St else Pr j) (W.length + 1) → StS S1 (if 4 ≤ kaN (hdI r) then St ++ [W.length] else St) (W.length + 1) → RdS S1 t z.2 → FC hdP S S1 → Ev (fun n => f_X12_reads n d 23 S1 [how, ((W.length + 1 : Nat) : Int), sbN (kaN (hdI r)), 1]) Q) : Ev (fun n => f_X12_reads n d 282 S [how, (W.length : Int), 1, kaN (hdI r)]) Q := by
  have hr := rd_hd h
  have k5 := kaN_le (hdI r)
  have n502 : S.1 502 40 = (W.length : Int) := hM.2.1
  have tpl : St ≠ [] → tpN St < W.length := fun z => (hSt.2.2 (St.length - 1) (by have := List.length_pos_iff.mpr z; omega)).2
  have tpc : St ≠ [] → S.1 511 (St.length - 1) = (tpN St : Int) := fun z => (hSt.2.2 (St.length - 1) (by have := List.length_pos_iff.mpr z; omega)).1
  have kl : key.length ≤ 12 ∧ ∀ y ∈ key, 0 ≤ y ∧ y < 256 := by
    unfold KeS at hK
    split at hK
    · exact ⟨hK.1, hK.2.2.2⟩
    · rw [hK]; exact ⟨by decide, fun y hy => by cases hy⟩
  have rr : rng r := rd_mem h
  refine ev_up (fun n => e_X12_reads_282) ?_
  unfold b_X12_reads_282
  refine ev_gv ?_
  rw [show (W.length : Int) + 1 = ((W.length + 1 : Nat) : Int) by omega]
  refine ev_gg (by first | omega | (constructor <;> omega)) ?_
  refine ev_gc (q_added0 (d := d - 1) (K := 40) (m := W.length) (by omega) rfl (by decide) n502 (by omega)) (fun y S5 qa => ?_)
  obtain ⟨ye, c61, n5, o5, f5⟩ := qa
  subst ye
  rw [if_neg (by omega)] at n5
  have o5' : S5.2.1 500 5 = false := by rw [o5, hM.1, decide_eq_false (by omega)]; rfl
  have s20 : S5.1 500 20 = (St.length : Int) := by rw [fc_i f5 (by omega)]; exact hSt.1
  have sl := hSt.2.1
  have p448 : ∀ S1, S1.1 501 (6161 * 40 + 61 * W.length) = kaN (hdI r) → S1.1 501 (6161 * 40 + 61 * W.length + 1) = tpS St → S1.1 501 (6161 * 40 + 61 * W.length + 3) = 0 → S1.1 501 (6161 * 40 + 61 * W.length + 5) = (key.length : Int) → (∀ j, j < key.length → S1.1 501 (6161 * 40 + 61 * W.length + 6 + j) = key.getD j 0) → (∀ w, 18 ≤ w → w < 61 → S1.1 501 (6161 * 40 + 61 * W.length + w) = 0) → (St ≠ [] → S1.1 501 (6161 * 40 + 61 * tpN St + 3) = (((W.getD (tpN St) nd0).2.1 + 1 : Nat) : Int)) → FC (fun c j => c = 501 ∧ ((6161 * 40 + 61 * W.length ≤ j ∧ j < 6161 * 40 + 61 * W.length + 18) ∨ (St ≠ [] ∧ j = 6161 * 40 + 61 * tpN St + 3))) S5 S1 → Ev (fun n => f_X12_reads n d 448 S1 [how, ((W.length + 1 : Nat) : Int), 1, kaN (hdI r), (W.length : Int)]) Q := by
    intro S1 c0 c1 c3 c5 c6 c18 cm f1
    have h1 : RdS S1 t r := rd_fr (rd_fr h f5 (by omega) (by omega) (fun j => by omega)) f1 (by omega) (by omega) (fun j => by omega)
    refine ev_up (fun n => e_X12_reads_448) ?_
    unfold b_X12_reads_448
    refine ev_gg (by first | omega | (constructor <;> omega)) ?_
    refine ev_gc (q_readsValue (d := d - 1) (I := W.length) (by omega) (by omega) h1 hk (c18 18 (by omega) (by omega)) (c18 19 (by omega) (by omega)) (c18 20 (by omega) (by omega))) (fun x S2 q2 => ?_)
    obtain ⟨q2, f2⟩ := q2
    have ff : FC hdP S S2 := fc_tr (fc_mono f5 (fun c j z => by omega)) (fc_tr (fc_mono f1 (fun c j z => by
      obtain ⟨z1, z2 | ⟨z2, z3⟩⟩ := z
      · omega
      · have := tpl z2
        omega)) (fc_mono f2 (fun c j z => by omega)))
    cases hB : rdB r with
    | inl q =>
      rw [hB] at q2
      obtain ⟨xe, r2⟩ := q2
      subst xe
      refine ev_gg (by decide) ?_
      refine ev_ite (fun z => by omega) (fun _ => ?_)
      refine ev_gv ?_
      rw [rd_pl r2]
      exact ev_ret (nxF q S2 hB r2 ff)
    | inr z =>
      rw [hB] at q2
      obtain ⟨xe, r2, nu⟩ := q2
      subst xe
      obtain ⟨yk, yn, -, y1, -, -⟩ := rdB_kd hB hk rr
      have cM : ∀ j, j < 6161 * 40 + 61 * W.length → ¬ (St ≠ [] ∧ j = 6161 * 40 + 61 * tpN St + 3) → S2.1 501 j = S.1 501 j := fun j j1 j2 => by
        rw [fc_i f2 (by omega), fc_i f1 (fun z => by
          obtain ⟨_, z2 | z2⟩ := z
          · omega
          · exact j2 z2), fc_i f5 (by omega)]
      have mU : ∃ Sa, MD Sa 40 (some (upT W St)) ∧ ∀ j, 6161 * 40 ≤ j → j < 6161 * 40 + 61 * W.length → S2.1 501 j = Sa.1 501 j := by
        by_cases e : St = []
        · refine ⟨S, ?_, fun j _ j2 => cM j j2 (fun z => z.1 e)⟩
          unfold upT
          rw [if_pos e]
          exact hM
        · have m3 := md_set3 (K := 40) (i := tpN St) (v := (W.getD (tpN St) nd0).2.1 + 1) hM (by have := hm e; omega) (by have := tpl e; omega)
          refine ⟨_, by unfold upT; rw [if_neg e]; exact m3, fun j j1 j2 => ?_⟩
          by_cases ej : j = 6161 * 40 + 61 * tpN St + 3
          · subst ej
            rw [gI_a, fc_i f2 (by have := tpl e; omega)]
            exact cm e
          · rw [gI_k ej]
            exact cM j j2 (fun z => ej z.2)
      obtain ⟨Sa, ma, fa⟩ := mU
      have ul : (upT W St).length = W.length := by
        unfold upT
        split
        · rfl
        · rw [List.length_set]
      have cr : CR S2 (6161 * 40 + 61 * W.length) (wQ (wZ (z.1.getD 0 nd0) 0) key) := ⟨by rw [fc_i f2 (by omega), c0]; exact yk.symm, by rw [fc_i f2 (by omega), c5]; rfl, fun j hj => by
        have hj' : j < key.length := hj
        rw [fc_i f2 (by omega)]
        exact c6 j hj', nu.1, nu.2.1, nu.2.2.1, nu.2.2.2⟩
      have nw : NW (wQ (wZ (z.1.getD 0 nd0) 0) key) := ⟨⟨yn.1, yn.2.1⟩, Nat.zero_le _, ⟨yn.2.2.2.2.2.2.1, yn.2.2.2.2.2.2.2.1⟩, kl, yn.2.2.2.2.1, yn.2.2.2.2.2.1⟩
      have m2 : MD S2 40 (some (upT W St ++ [wQ (wZ (z.1.getD 0 nd0) 0) key])) := md_pushI (m := W.length) ma ul hb nw ⟨cr, by rw [fc_i f2 (by omega), c3]; rfl⟩ (by rw [fc_i f2 (by omega), fc_i f1 (by omega)]; exact n5) (by rw [fc_b f2 (by omega), fc_b f1 (by omega)]; exact o5') fa
      have p2 : PrS S2 (fun j => if j = W.length then tpS St else Pr j) (W.length + 1) := by
        intro j hj
        dsimp only
        by_cases e : j = W.length
        · subst e
          rw [if_pos rfl, fc_i f2 (by omega), c1]
          refine ⟨rfl, ?_⟩
          unfold tpS
          split
          · decide
          · rename_i e
            have := tpl e
            omega
        · rw [if_neg e, cM _ (by omega) (fun z => by omega)]
          exact hP j (by omega)
      have t2 : StS S2 St (W.length + 1) := ⟨by rw [fc_i f2 (by omega), fc_i f1 (by omega)]; exact s20, sl, fun i hi => by
        rw [fc_i f2 (by omega), fc_i f1 (by omega), fc_i f5 (by omega)]
        have := hSt.2.2 i hi
        exact ⟨this.1, by omega⟩⟩
      have p483 : ∀ s0 : Int, s0 = sbN (kaN (hdI r)) → Ev (fun n => f_X12_reads n d 483 S2 [how, ((W.length + 1 : Nat) : Int), 1, kaN (hdI r), (W.length : Int), s0]) Q := by
        intro s0 hs
        subst hs
        have N := nxS z
        refine ev_up (fun n => e_X12_reads_483) ?_
        unfold b_X12_reads_483
        refine ev_gg (by first | omega | (constructor <;> omega)) ?_
        refine ev_ite (fun y => ?_) (fun y => ?_)
        · rw [if_neg (by omega)] at N
          exact N S2 hB m2 p2 t2 r2 ff
        · rw [if_pos (by omega)] at N
          have hl := hg (by omega)
          refine ev_gv ?_
          rw [t2.1]
          refine ev_gg (by first | omega | (constructor <;> omega)) ?_
          refine ev_gv ?_
          rw [Int.toNat_natCast]
          refine ev_gv ?_
          rw [gI_c (by omega), t2.1]
          refine ev_gv ?_
          refine ev_gv ?_
          have f3 : FC (fun c j => c = 511 ∨ (c = 500 ∧ j = 20)) S2 (gI (gI S2 511 St.length (W.length : Int)) 500 20 ((St.length : Int) + 1)) := fc_tr (fc_mono (fc_gI (P := fun c j => c = 511) rfl) (fun c j z => Or.inl z)) (fc_gI (Or.inr ⟨rfl, rfl⟩))
          refine N _ hB (mdr_fr m2 f3 (fun j _ _ => by omega) (by omega) (by omega)) (fun j hj => by rw [fc_i f3 (by omega)]; exact p2 j hj) (st_push ⟨t2.1, t2.2.1, fun i hi => hSt.2.2 i hi |>.imp (fun e => by rw [fc_i f2 (by omega), fc_i f1 (by omega), fc_i f5 (by omega)]; exact e) id⟩ hl (by omega) gI_a (fun i hi => by rw [gI_c (by decide), gI_k (by omega)]) (by rw [gI_c (by decide), gI_a])) (rd_fr r2 f3 (by omega) (by omega) (fun j => by omega)) (fc_tr ff (fc_mono f3 (fun c j z => by omega)))
      refine ev_gg (by decide) ?_
      refine ev_ite (fun _ => ?_) (fun z => by omega)
      refine ev_gg (by first | omega | (constructor <;> omega)) ?_
      refine ev_ite (fun y => ?_) (fun y => ?_)
      · refine ev_ite (fun y2 => ?_) (fun y2 => ?_)
        · refine p483 4 ?_
          unfold sbN
          rw [if_neg y, if_neg y2]
        · refine p483 2 ?_
          unfold sbN
          rw [if_neg y, if_pos (by omega)]
      · refine p483 1 ?_
        unfold sbN
        rw [if_pos (by omega)]
  have p396 : ∀ (v i : Nat) (S1 : GS), i + v = key.length → St ≠ [] ∧ (W.getD (tpN St) nd0).1 = 5 → KyS S1 key → S1.1 501 (6161 * 40 + 61 * W.length) = kaN (hdI r) → S1.1 501 (6161 * 40 + 61 * W.length + 1) = tpS St → S1.1 501 (6161 * 40 + 61 * W.length + 3) = 0 → S1.1 501 (6161 * 40 + 61 * W.length + 5) = (key.length : Int) → (∀ j, j < i → S1.1 501 (6161 * 40 + 61 * W.length + 6 + j) = key.getD j 0) → (∀ w, 18 ≤ w → w < 61 → S1.1 501 (6161 * 40 + 61 * W.length + w) = 0) → (S1.1 501 (6161 * 40 + 61 * tpN St + 3) = (((W.getD (tpN St) nd0).2.1 + 1 : Nat) : Int)) → S1.1 501 (6161 * 40 + 61 * tpN St) = 5 → FC (fun c j => c = 501 ∧ ((6161 * 40 + 61 * W.length ≤ j ∧ j < 6161 * 40 + 61 * W.length + 18) ∨ (St ≠ [] ∧ j = 6161 * 40 + 61 * tpN St + 3))) S5 S1 → Ev (fun n => f_X12_reads n d 396 S1 [how, ((W.length + 1 : Nat) : Int), 1, kaN (hdI r), (W.length : Int), (tpN St : Int), (i : Int)]) Q := by
    intro v
    induction v with
    | zero =>
      intro i S1 hi hn hky c0 c1 c3 c5 c6 c18 cm ck f1
      refine ev_up (fun n => e_X12_reads_396) ?_
      unfold b_X12_reads_396
      refine ev_gv ?_
      rw [hky.2.1]
      refine ev_gg (by first | omega | (constructor <;> omega)) ?_
      refine ev_gg (by first | omega | (constructor <;> omega)) ?_
      refine ev_ite (fun _ => ?_) (fun z => by omega)
      exact p448 S1 c0 c1 c3 c5 (fun j hj => c6 j (by omega)) c18 (fun _ => cm) f1
    | succ v ih =>
      intro i S1 hi hn hky c0 c1 c3 c5 c6 c18 cm ck f1
      have tl := tpl hn.1
      refine ev_up (fun n => e_X12_reads_396) ?_
      unfold b_X12_reads_396
      refine ev_gv ?_
      rw [hky.2.1]
      refine ev_gg (by first | omega | (constructor <;> omega)) ?_
      refine ev_gg (by first | omega | (constructor <;> omega)) ?_
      refine ev_ite (fun z => by omega) (fun _ => ?_)
      refine ev_gg (by first | omega | (constructor <;> omega)) ?_
      refine ev_gcr (q_kind (d := d - 1) (k := 40) (i := (tpN St : Int)) (6161 * 40 + 61 * tpN St) (by omega) (by omega) (by omega)) ?_
      rw [ck]
      refine ev_gg (by decide) ?_
      refine ev_ite (fun z => by omega) (fun _ => ?_)
      refine ev_gcr (q_at) ?_
      refine ev_gv ?_
      refine ev_gv ?_
      refine ev_gg (by first | omega | (constructor <;> omega)) ?_
      refine ev_gv ?_
      rw [Int.toNat_natCast, hky.2.2.1 i (by omega)]
      refine ev_gg (by first | omega | (constructor <;> omega)) ?_
      refine ev_gv ?_
      rw [show ((101 * (40 : Int) + (W.length : Int)) * 61 + 6 + (i : Int)).toNat = 6161 * 40 + 61 * W.length + 6 + i by omega]
      refine ev_gv ?_
      rw [show (i : Int) + 1 = ((i + 1 : Nat) : Int) by omega]
      have f3 : FC (fun c j => c = 501 ∧ j = 6161 * 40 + 61 * W.length + 6 + i) S1 (gI S1 501 (6161 * 40 + 61 * W.length + 6 + i) (key.getD i 0)) := fc_gI ⟨rfl, rfl⟩
      refine ih (i + 1) _ (by omega) hn (ky_fr hky f3 (by omega) (fun j => by omega)) (by rw [fc_i f3 (by omega)]; exact c0) (by rw [fc_i f3 (by omega)]; exact c1) (by rw [fc_i f3 (by omega)]; exact c3) (by rw [fc_i f3 (by omega)]; exact c5) (fun j hj => ?_) (fun w w1 w2 => by rw [fc_i f3 (by omega)]; exact c18 w w1 w2) (by rw [fc_i f3 (by omega)]; exact cm) (by rw [fc_i f3 (by omega)]; exact ck) (fc_tr f1 (fc_mono f3 (fun c j z => ⟨z.1, Or.inl (by omega)⟩)))
      by_cases e : j = i
      · subst e; rw [gI_a]
      · rw [fc_i f3 (by omega)]; exact c6 j (by omega)
  have p317 : Ev (fun n => f_X12_reads n d 317 S5 [how, ((W.length + 1 : Nat) : Int), 1, kaN (hdI r), (W.length : Int), tpS St]) Q := by
    have tin : inr (tpS St) := by
      unfold tpS
      split
      · decide
      · rename_i e
        have := tpl e
        omega
    have f8 : FC (fun c j => c = 501 ∧ j = 6161 * 40 + 61 * W.length + 1) S5 (gI S5 501 (6161 * 40 + 61 * W.length + 1) (tpS St)) := fc_gI ⟨rfl, rfl⟩
    refine ev_up (fun n => e_X12_reads_317) ?_
    unfold b_X12_reads_317
    refine ev_gg (by first | omega | (constructor <;> omega)) ?_
    refine ev_gcr (q_at) ?_
    refine ev_gv ?_
    refine ev_gg (by first | omega | (constructor <;> omega)) ?_
    refine ev_gv ?_
    rw [show ((101 * (40 : Int) + (W.length : Int)) * 61 + 1).toNat = 6161 * 40 + 61 * W.length + 1 by omega]
    refine ev_gg (tin) ?_
    have c0 : S5.1 501 (6161 * 40 + 61 * W.length) = kaN (hdI r) := by have := c61 0 (by omega); rw [if_pos rfl] at this; exact this
    have cw : ∀ w, 1 ≤ w → w < 61 → S5.1 501 (6161 * 40 + 61 * W.length + w) = 0 := fun w w1 w2 => by rw [c61 w w2, if_neg (by omega)]
    refine ev_ite (fun y => ?_) (fun y => ?_)
    · have e : St = [] := by
        by_cases e : St = []
        · exact e
        · unfold tpS at y
          rw [if_neg e] at y
          omega
      have ke : key = [] := by
        unfold KeS at hK
        rw [if_neg (fun z => z.1 e)] at hK
        exact hK
      refine p448 _ (by rw [gI_k (by omega)]; exact c0) gI_a (by rw [gI_k (by omega)]; exact cw 3 (by omega) (by omega)) (by rw [gI_k (by omega), ke]; exact cw 5 (by omega) (by omega)) (fun j hj => by rw [ke] at hj; cases hj) (fun w w1 w2 => by rw [gI_k (by omega)]; exact cw w (by omega) w2) (fun z => absurd e z) (fc_mono f8 (fun c j z => ⟨z.1, Or.inl (by omega)⟩))
    · have e : St ≠ [] := fun e => y (by unfold tpS; rw [if_pos e])
      have te : tpS St = (tpN St : Int) := by unfold tpS; rw [if_neg e]
      have tl := tpl e
      have g0 := hM.2.2.2.1 (tpN St) tl
      have m1 := hm e
      rw [te] at f8 ⊢
      refine ev_gcr (q_at) ?_
      refine ev_gv ?_
      refine ev_gg (by first | omega | (constructor <;> omega)) ?_
      refine ev_gv ?_
      rw [show ((101 * (40 : Int) + (tpN St : Int)) * 61 + 3).toNat = 6161 * 40 + 61 * tpN St + 3 by omega, gI_k (by omega), fc_i f5 (by omega), g0.2]
      refine ev_gv ?_
      refine ev_gv ?_
      rw [show ((W.getD (tpN St) nd0).2.1 : Int) + 1 = (((W.getD (tpN St) nd0).2.1 + 1 : Nat) : Int) by omega]
      refine ev_gcr (q_at) ?_
      refine ev_gv ?_
      refine ev_gcr (q_kind (d := d - 1) (k := 40) (i := (tpN St : Int)) (6161 * 40 + 61 * tpN St) (by omega) (by omega) (by omega)) ?_
      rw [gI_k (by omega), gI_k (by omega), fc_i f5 (by omega), g0.1.1]
      have nwg := (hM.2.2.2.2 _ (nd_mem tl)).1
      have f9 : FC (fun c j => c = 501 ∧ ((6161 * 40 + 61 * W.length ≤ j ∧ j < 6161 * 40 + 61 * W.length + 18) ∨ (St ≠ [] ∧ j = 6161 * 40 + 61 * tpN St + 3))) S5 (gI (gI S5 501 (6161 * 40 + 61 * W.length + 1) (tpN St : Int)) 501 (6161 * 40 + 61 * tpN St + 3) (((W.getD (tpN St) nd0).2.1 + 1 : Nat) : Int)) := fc_tr (fc_mono f8 (fun c j z => ⟨z.1, Or.inl (by omega)⟩)) (fc_gI ⟨rfl, Or.inr ⟨e, rfl⟩⟩)
      refine ev_gg (by first | omega | (constructor <;> omega)) ?_
      refine ev_ite (fun y2 => ?_) (fun y2 => ?_)
      · have ke : key = [] := by
          unfold KeS at hK
          rw [if_neg (fun z => y2 z.2)] at hK
          exact hK
        refine ev_gg (by first | omega | (constructor <;> omega)) ?_
        refine ev_gv ?_
        rw [show ((101 * (40 : Int) + (W.length : Int)) * 61 + 5).toNat = 6161 * 40 + 61 * W.length + 5 by omega]
        have q448 := p448 (gI (gI (gI S5 501 (6161 * 40 + 61 * W.length + 1) (tpN St : Int)) 501 (6161 * 40 + 61 * tpN St + 3) (((W.getD (tpN St) nd0).2.1 + 1 : Nat) : Int)) 501 (6161 * 40 + 61 * W.length + 5) 0) (by rw [gI_k (by omega), gI_k (by omega), gI_k (by omega)]; exact c0) (by rw [gI_k (by omega), gI_k (by omega), gI_a]; exact te.symm) (by rw [gI_k (by omega), gI_k (by omega), gI_k (by omega)]; exact cw 3 (by omega) (by omega)) (by rw [gI_a, ke]; rfl) (fun j hj => by rw [ke] at hj; cases hj) (fun w w1 w2 => by rw [gI_k (by omega), gI_k (by omega), gI_k (by omega)]; exact cw w (by omega) w2) (fun _ => by rw [gI_k (by omega), gI_a]) (fc_tr f9 (fc_gI ⟨rfl, Or.inl (by omega)⟩))
        have ck : (gI (gI (gI S5 501 (6161 * 40 + 61 * W.length + 1) (tpN St : Int)) 501 (6161 * 40 + 61 * tpN St + 3) (((W.getD (tpN St) nd0).2.1 + 1 : Nat) : Int)) 501 (6161 * 40 + 61 * W.length + 5) 0).1 501 (6161 * 40 + 61 * tpN St) = (W.getD (tpN St) nd0).1 := by rw [gI_k (by omega), gI_k (by omega), gI_k (by omega), fc_i f5 (by omega), g0.1.1]
        have e22 : (gI (gI (gI S5 501 (6161 * 40 + 61 * W.length + 1) (tpN St : Int)) 501 (6161 * 40 + 61 * tpN St + 3) (((W.getD (tpN St) nd0).2.1 + 1 : Nat) : Int)) 501 (6161 * 40 + 61 * W.length + 5) 0).1 500 22 = S.1 500 22 := by rw [gI_c (by decide), gI_c (by decide), gI_c (by decide), fc_i f5 (by omega)]
        generalize gI (gI (gI S5 501 (6161 * 40 + 61 * W.length + 1) (tpN St : Int)) 501 (6161 * 40 + 61 * tpN St + 3) (((W.getD (tpN St) nd0).2.1 + 1 : Nat) : Int)) 501 (6161 * 40 + 61 * W.length + 5) 0 = S9 at q448 ck e22 ⊢
        refine ev_up (fun n => e_X12_reads_396) ?_
        unfold b_X12_reads_396
        refine ev_gv ?_
        rw [e22]
        refine ev_gg (by decide) ?_
        refine ev_gg (h22) ?_
        refine ev_ite (fun _ => q448) (fun _ => ?_)
        refine ev_gg (by first | omega | (constructor <;> omega)) ?_
        refine ev_gcr (q_kind (d := d - 1) (k := 40) (i := (tpN St : Int)) (6161 * 40 + 61 * tpN St) (by omega) (by omega) (by omega)) ?_
        rw [ck]
        refine ev_gg (by first | omega | (constructor <;> omega)) ?_
        refine ev_ite (fun _ => ?_) (fun z => by omega)
        exact q448
      · have hn : St ≠ [] ∧ (W.getD (tpN St) nd0).1 = 5 := ⟨e, by omega⟩
        unfold KeS at hK
        rw [if_pos hn] at hK
        refine ev_gv ?_
        rw [gI_c (by decide), gI_c (by decide), fc_i f5 (by omega), hK.2.1]
        refine ev_gg (by first | omega | (constructor <;> omega)) ?_
        refine ev_gv ?_
        rw [show ((101 * (40 : Int) + (W.length : Int)) * 61 + 5).toNat = 6161 * 40 + 61 * W.length + 5 by omega]
        have f10 := fc_tr f9 (fc_gI (P := fun c j => c = 501 ∧ ((6161 * 40 + 61 * W.length ≤ j ∧ j < 6161 * 40 + 61 * W.length + 18) ∨ (St ≠ [] ∧ j = 6161 * 40 + 61 * tpN St + 3))) (S := gI (gI S5 501 (6161 * 40 + 61 * W.length + 1) (tpN St : Int)) 501 (6161 * 40 + 61 * tpN St + 3) (((W.getD (tpN St) nd0).2.1 + 1 : Nat) : Int)) (c := 501) (k := 6161 * 40 + 61 * W.length + 5) (x := (key.length : Int)) ⟨rfl, Or.inl (by omega)⟩)
        exact p396 key.length 0 _ (by omega) hn (ky_fr (ky_fr hK f5 (by omega) (fun j => by omega)) f10 (by omega) (fun j => by omega)) (by rw [gI_k (by omega), gI_k (by omega), gI_k (by omega)]; exact c0) (by rw [gI_k (by omega), gI_k (by omega), gI_a]; exact te.symm) (by rw [gI_k (by omega), gI_k (by omega), gI_k (by omega)]; exact cw 3 (by omega) (by omega)) gI_a (fun j hj => absurd hj (Nat.not_lt_zero j)) (fun w w1 w2 => by rw [gI_k (by omega), gI_k (by omega), gI_k (by omega)]; exact cw w (by omega) w2) (by rw [gI_k (by omega), gI_a]) (by rw [gI_k (by omega), gI_k (by omega), gI_k (by omega), fc_i f5 (by omega), g0.1.1]; exact hn.2) f10
  refine ev_gv ?_
  rw [s20]
  refine ev_gg (by first | omega | (constructor <;> omega)) ?_
  refine ev_ite (fun y => ?_) (fun y => ?_)
  · have e : St ≠ [] := fun e => y (by rw [e]; rfl)
    have ln := List.length_pos_iff.mpr e
    have te : tpS St = (tpN St : Int) := by unfold tpS; rw [if_neg e]
    refine ev_gv ?_
    refine ev_gv ?_
    refine ev_gg (by first | omega | (constructor <;> omega)) ?_
    refine ev_gv ?_
    rw [show ((St.length : Int) - 1).toNat = St.length - 1 by omega, fc_i f5 (by omega), tpc e, ← te]
    exact p317
  · have e : St = [] := List.length_eq_zero_iff.mp (by omega)
    have te : tpS St = -1 := by unfold tpS; rw [if_pos e]
    rw [← te]
    exact p317
end RHE
