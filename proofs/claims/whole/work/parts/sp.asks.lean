/-! THE REFERENCE asks SCHEMAS -/
/-- these NODES are SCHEMAS, and all that they ask -/
def OkS (Sc : List ND) (ok : Nat → Prop) : Prop := (∀ i, ok i → i < Sc.length ∧ (nk Sc i = 5 ∨ nk Sc i = 1) ∧ ∀ w said : Nat, 1 ≤ w → w ≤ 15 → vLk Sc (i : Int) (sx (30 + w)) = (said : Int) → okWd Sc w said ∧ ((w = 7 ∨ w = 11 ∨ w = 12 ∨ w = 13) → ∀ c ∈ kids Sc said, ok c) ∧ ((w = 8 ∨ w = 9 ∨ w = 14) → ok said)) ∧ ∀ (q : List Int) (t : Nat), vLk Sc (vLk Sc 0 (sx 53)) q = (t : Int) → ok t
section ASK
variable {S : GS} {d A B k : Nat} {Sc T : List ND} {refs cs : List (Int × Int)} {n : Int}
theorem vl_kid {i t : Nat} {q : List Int} (h : vLk Sc (i : Int) q = (t : Int)) : t ∈ kids Sc i := by
  unfold vLk at h
  split at h
  · rw [Int.toNat_natCast] at h
    rcases fdK_mem (V := Sc) (key := q) (kidsM Sc i) with z | ⟨c, hc, z, _⟩
    · rw [z] at h; omega
    · rw [z] at h
      have e : c = t := by omega
      rw [← e]
      unfold kidsM at hc
      split at hc
      · exact hc
      · cases hc
  · omega
theorem hgt_kid (hS : TR Sc ∧ PZL Sc) {i c : Nat} {b : Int} (hi : i < Sc.length) (hc : c ∈ kids Sc i) (h : ∀ r, dpS r (sg Sc i) ≤ b) : ∀ r, dpS r (sg Sc c) ≤ b - 1 := by
  have zS := pz_l hS.2
  have w3 := hS.1.1.2.2 i hi
  have m := mem_kids zS hc
  have z1 := zS i
  have r4 : 4 ≤ rk (sg Sc i) := by
    rw [rk_sg hi z1]
    by_cases z : 4 ≤ nk Sc i
    · exact z
    · have := w3 (by omega)
      omega
  refine dp_kd (b := b - 1) (T := sg Sc i) (fun g => by have := h g; omega) r4 ?_
  rw [kd_sg hS.2 hS.1.1 hi]
  exact List.mem_map.mpr ⟨c, hc, rfl⟩
theorem hgt_1 (hS : TR Sc ∧ PZL Sc) {i : Nat} {b : Int} (hi : i < Sc.length) (h4 : 4 ≤ nk Sc i) (h : ∀ r, dpS r (sg Sc i) ≤ b) : 1 ≤ b := by
  have := h 0
  have e : dpS 0 (sg Sc i) = 1 := by
    show (if 4 ≤ rk (sg Sc i) then 1 else 0 : Int) = 1
    rw [if_pos (by rw [rk_sg hi (pz_l hS.2 i)]; exact h4)]
  omega
theorem qs_sub {w by_ said node p sub nd : Nat} (hp : p < (qsL Sc T refs w by_ said node).length) (hq : (qsL Sc T refs w by_ said node).getD p (0, 0) = ((sub : Int), (nd : Int))) (hw : 7 ≤ w ∧ w ≤ 13 ∧ w ≠ 10) : ((w = 7 ∨ 11 ≤ w) → sub ∈ kids Sc said) ∧ ((w = 8 ∨ w = 9) → sub = said) := by
  have gm : ∀ (L : List Nat) (f : Nat → Int × Int) (p : Nat), p < (L.map f).length → ∃ x ∈ L, (L.map f).getD p (0, 0) = f x := by
    intro L f p hp
    rw [List.length_map] at hp
    refine ⟨L[p], List.getElem_mem hp, ?_⟩
    rw [List.getD_eq_getElem?_getD, List.getElem?_map, List.getElem?_eq_getElem hp]
    rfl
  unfold qsL at hp hq
  by_cases c7 : w = 7
  · rw [if_pos c7] at hp hq
    obtain ⟨x, _, e⟩ := gm _ _ _ hp
    rw [e] at hq
    have := (Prod.mk.inj hq).1
    exact ⟨fun _ => vl_kid this, fun z => by omega⟩
  rw [if_neg c7] at hp hq
  by_cases c8 : w = 8
  · rw [if_pos c8] at hp hq
    obtain ⟨x, _, e⟩ := gm _ _ _ hp
    rw [e] at hq
    have := (Prod.mk.inj hq).1
    refine ⟨fun z => by omega, fun _ => ?_⟩
    split at this <;> omega
  rw [if_neg c8] at hp hq
  by_cases c9 : w = 9
  · rw [if_pos c9] at hp hq
    obtain ⟨x, _, e⟩ := gm _ _ _ hp
    rw [e] at hq
    have := (Prod.mk.inj hq).1
    exact ⟨fun z => by omega, fun _ => by omega⟩
  rw [if_neg c9, if_neg (by omega), if_neg (by omega)] at hp hq
  obtain ⟨x, hx, e⟩ := gm _ _ _ hp
  rw [e] at hq
  have := (Prod.mk.inj hq).1
  have ex : x = sub := by omega
  rw [← ex]
  exact ⟨fun _ => hx, fun z => by omega⟩
theorem qs_len2 {w by_ said node : Nat} (klS : (kids Sc said).length ≤ 100) (klT : (kids T node).length ≤ 100) : (qsL Sc T refs w by_ said node).length ≤ 100 := by
  unfold qsL kidsM
  repeat' split
  all_goals simp only [List.length_map, List.length_nil, List.length_cons]
  all_goals omega
theorem q_ask {P M : Int} {ok : Nat → Prop} (hd : 30 ≤ d) (hk : AbK A B Sc T) (hPM : P ≤ M ∧ P ≤ 2000 ∧ M ≤ 1000000000) (hok : OkS Sc ok) : ∀ (f : Nat) (refs : List (Int × Int)) (by_ node k : Nat) (b n : Int) (cs : List (Int × Int)) (S : GS) (Q : Int → GS → Prop), 10 * (13 - (refs.length : Int)) + b + 1 ≤ (f : Int) → k + f ≤ 151 → (∀ r, dpS r (sg Sc by_) ≤ b) → RefK refs → ok by_ → node < T.length → 0 ≤ n → n ≤ P → (cs.length : Int) ≤ 99 * n → AkS A B Sc T refs (n + 1) cs (k + 1) S → FrQ k (by_ : Int) (node : Int) 1 0 (cs.length : Int) 0 false S → (P = M ∨ askR Sc T P f refs (by_ : Int) (node : Int) (n, cs) ≠ none) → (askR Sc T P f refs (by_ : Int) (node : Int) (n, cs) = none → ∀ S1, FC (akP 0) S S1 → M < S1.1 500 64 → inr (S1.1 500 64) → Ev (fun m => f_X12_asksWhole m d 102 S1 [M]) Q) → (∀ (n1 : Int) (cs1 : List (Int × Int)), askR Sc T P f refs (by_ : Int) (node : Int) (n, cs) = some (n1, cs1) → ∀ S1, AkS A B Sc T refs n1 cs1 k S1 → S1.2.1 500 75 = decide (cs1.length = cs.length) → FC (akP k) S S1 → Ev (fun m => f_X12_asksWhole m d 36 S1 [M]) Q) → Ev (fun m => f_X12_asksWhole m d 36 S [M]) Q := by
  obtain ⟨⟨⟨kA, kA4⟩, ⟨kB, kB4⟩⟩, ⟨sS, dS⟩, sT, dT⟩ := id hk
  have wS := sS.1.1.1
  have zS := pz_l sS.1.2
  intro f
  induction f with
  | zero =>
    intro refs by_ node k b n cs S Q hf _ hb hr hby _ _ _ _ _ _ _ _ _
    have := hb 0
    have := dp_0 (g := 0) (T := sg Sc by_)
    have := hr.1
    omega
  | succ f IH =>
    intro refs by_ node k b n cs S Q hf hkf hb hr hby hn hn0 hnP hcl hA hF hres nxN nxS
    obtain ⟨bl, bk, bw⟩ := hok.1 by_ hby
    have lS := hA.1.2.1.2.1
    have lT := hA.1.2.2.2.1
    have r13 := hr.1
    generalize hR : askR Sc T P (f + 1) refs (by_ : Int) (node : Int) (n, cs) = res at hres nxN nxS
    have eR : askR Sc T P (f + 1) refs (by_ : Int) (node : Int) (n, cs) = if P < n + 1 then none else if kdI Sc (by_ : Int) = 5 then wdsR Sc T (askR Sc T P f) refs by_ node 15 (n + 1, cs) else if kdI Sc (by_ : Int) = 1 ∧ np Sc by_ = 1 then some (n + 1, cs) else some (n + 1, cs ++ [((node : Int), 0)]) := rfl
    rw [hR, kdI_n bl] at eR
    -- too often
    by_cases cP : P < n + 1
    · rw [if_pos cP] at eR
      have eM : P = M := by
        rcases hres with z | z
        · exact z
        · exact absurd eR z
      refine ev_up (fun n => e_X12_asksWhole_36) ?_
      unfold b_X12_asksWhole_36
      refine ev_gv ?_
      rw [hA.2.2.2.2]
      refine ev_gg (by first | omega | (constructor <;> omega)) ?_
      refine ev_ite (fun z => by omega) (fun _ => ?_)
      refine ev_gv ?_
      rw [hA.2.2.2.1]
      refine ev_gg (by first | omega | (constructor <;> omega)) ?_
      refine ev_gg (by first | omega | (constructor <;> omega)) ?_
      refine ev_ite (fun _ => ?_) (fun z => by omega)
      exact nxN eR S fc_rf (by rw [hA.2.2.2.1]; omega) (by rw [hA.2.2.2.1]; constructor <;> omega)
    rw [if_neg cP] at eR
    -- the frame runs on
    have step : ∀ (S1 : GS) (n1 : Int), S1.1 500 66 = ((k + 1 : Nat) : Int) → S1.1 500 64 = n1 → (0 ≤ n1 ∧ n1 ≤ P) → Ev (fun m => f_X12_asksMore m (d - 1) 0 S1 [(k : Int)]) (fun x S2 => (x = 0 ∧ ∃ n1 cs1, AkS A B Sc T refs n1 cs1 (k + 1) S2 ∧ S2.1 545 k = (cs.length : Int) ∧ FC (akP k) S S2 ∧ res = some (n1, cs1) ∧ cs1.length ≤ 219900) ∨ (x = 1 ∧ Ev (fun m => f_X12_asksWhole m d 36 S2 [M]) Q)) → Ev (fun m => f_X12_asksWhole m d 36 S1 [M]) Q := by
      intro S1 n1 e66 e64 hn1 hE
      refine ev_up (fun n => e_X12_asksWhole_36) ?_
      unfold b_X12_asksWhole_36
      refine ev_gv ?_
      rw [e66]
      refine ev_gg (by first | omega | (constructor <;> omega)) ?_
      refine ev_ite (fun z => by omega) (fun _ => ?_)
      refine ev_gv ?_
      rw [e64]
      refine ev_gg (by first | omega | (constructor <;> omega)) ?_
      refine ev_gg (by first | omega | (constructor <;> omega)) ?_
      refine ev_ite (fun z => by omega) (fun _ => ?_)
      refine ev_gv ?_
      refine ev_gv ?_
      refine ev_gg (by first | omega | (constructor <;> omega)) ?_
      rw [show ((k + 1 : Nat) : Int) - 1 = (k : Int) by omega]
      refine ev_gc hE (fun x S2 q => ?_)
      rcases q with ⟨rfl, n2, cs2, a2, b2, f2, r2, l2⟩ | ⟨rfl, hQ⟩
      · refine ev_gg (by decide) ?_
        refine ev_ite (fun z => absurd rfl z) (fun _ => ?_)
        refine ev_gv ?_
        rw [a2.2.2.2.2]
        refine ev_gv ?_
        refine ev_gv ?_
        rw [show ((k + 1 : Nat) : Int) - 1 = (k : Int) by omega]
        have f3 : FC (fun c j => c = 500 ∧ j = 66) S2 (gI S2 500 66 (k : Int)) := fc_gI ⟨rfl, rfl⟩
        have a3 : AkS A B Sc T refs n2 cs2 k (gI S2 500 66 (k : Int)) := ⟨ab_fr hk a2.1 f3 (fun c j z => ak_ck (k := 0) (i5_ak ⟨z.1, by omega⟩)), ref_fr a2.2.1 f3 (by omega) (fun j => by omega) (fun j => by omega), cs_fr a2.2.2.1 f3 (by omega) (fun j => by omega), (fc_i f3 (by omega)).trans a2.2.2.2.1, gI_a⟩
        have b3 : (gI S2 500 66 (k : Int)).1 545 k = (cs.length : Int) := by rw [gI_c (by decide)]; exact b2
        have f03 : FC (akP k) S (gI S2 500 66 (k : Int)) := fc_tr f2 (fc_mono f3 (fun c j z => i5_ak ⟨z.1, by omega⟩))
        generalize gI S2 500 66 (k : Int) = S3 at a3 b3 f03 ⊢
        refine ev_gv ?_
        rw [a3.2.2.1.1]
        refine ev_gv ?_
        rw [a3.2.2.2.2]
        refine ev_gg (by first | omega | (constructor <;> omega)) ?_
        refine ev_gv ?_
        rw [Int.toNat_natCast, b3]
        refine ev_gg (by first | omega | (constructor <;> omega)) ?_
        refine ev_gg (by first | omega | (constructor <;> omega)) ?_
        refine ev_ite (fun z => ?_) (fun z => ?_)
        · refine ev_gv ?_
          have f4 : FC (fun c j => c = 500 ∧ j = 75) S3 (gB S3 500 75 (decide ((0 : Int) = 1))) := fc_gB ⟨rfl, rfl⟩
          refine nxS n2 cs2 r2 _ (ak_fr hk a3 f4 (fun c j z => Or.inr (Or.inr (Or.inr (Or.inr (Or.inr z)))))) ?_ (fc_tr f03 (fc_mono f4 (fun c j z => i5_ak ⟨z.1, by omega⟩)))
          rw [gB_a, decide_eq_false (by decide), decide_eq_false (by omega)]
        · refine ev_gv ?_
          have f4 : FC (fun c j => c = 500 ∧ j = 75) S3 (gB S3 500 75 (decide ((1 : Int) = 1))) := fc_gB ⟨rfl, rfl⟩
          refine nxS n2 cs2 r2 _ (ak_fr hk a3 f4 (fun c j z => Or.inr (Or.inr (Or.inr (Or.inr (Or.inr z)))))) ?_ (fc_tr f03 (fc_mono f4 (fun c j z => i5_ak ⟨z.1, by omega⟩)))
          rw [gB_a, decide_eq_true (by decide), decide_eq_true (by omega)]
      · refine ev_gg (by decide) ?_
        refine ev_ite (fun _ => ?_) (fun z => absurd (by decide) z)
        exact hQ
    -- a frame that begins
    have beg : Ev (fun m => f_X12_asksMore m (d - 1) 14 S [(k : Int)]) (fun x S2 => (x = 0 ∧ ∃ n1 cs1, AkS A B Sc T refs n1 cs1 (k + 1) S2 ∧ S2.1 545 k = (cs.length : Int) ∧ FC (akP k) S S2 ∧ res = some (n1, cs1) ∧ cs1.length ≤ 219900) ∨ (x = 1 ∧ Ev (fun m => f_X12_asksWhole m d 36 S2 [M]) Q)) → Ev (fun m => f_X12_asksWhole m d 36 S [M]) Q := by
      intro hE
      refine step S (n + 1) hA.2.2.2.2 hA.2.2.2.1 (by omega) ?_
      refine ev_up (fun n => e_X12_asksMore_0) ?_
      unfold b_X12_asksMore_0
      refine ev_gg (by first | omega | (constructor <;> omega)) ?_
      refine ev_gv ?_
      rw [Int.toNat_natCast, hF.2.2]
      refine ev_gg (by decide) ?_
      refine ev_ite (fun _ => ?_) (fun z => absurd rfl z)
      exact hE
    by_cases c5 : nk Sc by_ = 5
    rotate_left
    · -- a TRUTH
      have k1 : nk Sc by_ = 1 := by
        rcases bk with z | z
        · exact absurd z c5
        · exact z
      have k1' : (Sc.getD by_ nd0).1 = 1 := k1
      have ei : isN (Sc.getD by_ nd0) = np Sc by_ := by
        unfold isN
        rw [if_neg (by omega), if_pos k1']
        rfl
      have np01 : np Sc by_ = 0 ∨ np Sc by_ = 1 := by
        have v := (sS.2.1 _ (nd_mem bl)).2
        have e : np Sc by_ = (Sc.getD by_ nd0).2.2.1 := rfl
        rcases v with w | w | w | w | w
        · omega
        · rw [e]; exact w.2.1
        · omega
        · omega
        · omega
      rw [if_neg c5] at eR
      refine beg ?_
      refine ev_up (fun n => e_X12_asksMore_14) ?_
      unfold b_X12_asksMore_14
      refine ev_gv ?_
      rw [hA.1.1.1]
      refine ev_gg (by first | omega | (constructor <;> omega)) ?_
      refine ev_gv ?_
      rw [Int.toNat_natCast, hF.1.1.1]
      refine ev_gg (by first | omega | (constructor <;> omega)) ?_
      refine ev_gcr (q_kindL (d := d - 1 - 1) (K := A) (I := by_) (V := Sc) (by omega) rfl kA rfl hA.1.2.1 bl) ?_
      refine ev_gg (by first | omega | (constructor <;> omega)) ?_
      refine ev_ite (fun z => absurd z c5) (fun _ => ?_)
      refine ev_gv ?_
      rw [hA.1.1.1]
      refine ev_gv ?_
      rw [hF.1.1.1]
      refine ev_gcr (q_isL (d := d - 1 - 1) (K := A) (I := by_) (V := Sc) (by omega) rfl kA rfl hA.1.2.1 bl) ?_
      rw [ei]
      refine ev_gg (by first | omega | (constructor <;> omega)) ?_
      refine ev_ite (fun z => ?_) (fun z => ?_)
      · rw [if_pos ⟨k1, by omega⟩] at eR
        exact ev_ret (Or.inl ⟨rfl, n + 1, cs, hA, hF.2.1.1, fc_rf, eR, by omega⟩)
      · rw [if_neg (fun y => by have := y.2; omega)] at eR
        refine ev_gv ?_
        rw [hF.1.1.2]
        refine ev_gc (q_complains (d := d - 1 - 1) (a := (node : Int)) (w := 0) hA.2.2.1 (by omega) ⟨⟨by omega, by omega⟩, by omega, by omega⟩) (fun _ S2 q2 => ?_)
        obtain ⟨c2, f2⟩ := q2
        refine ev_ret (Or.inl ⟨rfl, n + 1, _, ⟨ab_fr hk hA.1 f2 (fun c j z => cs_ck z), ref_fr hA.2.1 f2 (by omega) (fun j => by omega) (fun j => by omega), c2, (fc_i f2 (by omega)).trans hA.2.2.2.1, (fc_i f2 (by omega)).trans hA.2.2.2.2⟩, (fc_i f2 (by omega)).trans hF.2.1.1, fc_mono f2 (fun c j z => cs_ak z), eR, ?_⟩)
        rw [List.length_append, List.length_singleton]
        omega
    rw [if_pos c5] at eR
    have b1 := hgt_1 sS.1 bl (by omega) hb
    -- an ask that is made and answered
    have p14 : ∀ (R : Int → GS → Prop) (S1 : GS) (n1 : Int) (cs1 : List (Int × Int)) (rf : List (Int × Int)) (w p yes : Int), AkS A B Sc T rf n1 cs1 (k + 1) S1 → FrQ k (by_ : Int) (node : Int) w p (cs.length : Int) yes false S1 → Ev (fun m => f_X12_asksMore m (d - 1) 64 S1 [(k : Int)]) R → Ev (fun m => f_X12_asksMore m (d - 1) 14 S1 [(k : Int)]) R := by
      intro R S1 n1 cs1 rf w p yes a1 fq hE
      refine ev_up (fun n => e_X12_asksMore_14) ?_
      unfold b_X12_asksMore_14
      refine ev_gv ?_
      rw [a1.1.1.1]
      refine ev_gg (by first | omega | (constructor <;> omega)) ?_
      refine ev_gv ?_
      rw [Int.toNat_natCast, fq.1.1.1]
      refine ev_gg (by first | omega | (constructor <;> omega)) ?_
      refine ev_gcr (q_kindL (d := d - 1 - 1) (K := A) (I := by_) (V := Sc) (by omega) rfl kA rfl a1.1.2.1 bl) ?_
      refine ev_gg (by first | omega | (constructor <;> omega)) ?_
      refine ev_ite (fun _ => ?_) (fun z => absurd c5 z)
      exact hE
    have go : ∀ (rf : List (Int × Int)) (sub nd : Nat) (b2 n2 : Int) (cs2 : List (Int × Int)) (w p yes : Int) (S1 : GS), ok sub → (∀ r, dpS r (sg Sc sub) ≤ b2) → 10 * (13 - (rf.length : Int)) + b2 + 1 ≤ (f : Int) → RefK rf → nd < T.length → 0 ≤ n2 → n2 ≤ P → (cs2.length : Int) ≤ 99 * n2 → AkS A B Sc T rf (n2 + 1) cs2 (k + 2) S1 → FrQ (k + 1) (sub : Int) (nd : Int) 1 0 (cs2.length : Int) 0 false S1 → FrQ k (by_ : Int) (node : Int) w p (cs.length : Int) yes true S1 → FC (akP k) S S1 → (askR Sc T P f rf (sub : Int) (nd : Int) (n2, cs2) = none → res = none) → (∀ (n3 : Int) (cs3 es : List (Int × Int)) (S3 : GS), askR Sc T P f rf (sub : Int) (nd : Int) (n2, cs2) = some (n3, cs3) → cs3 = cs2 ++ es → (0 ≤ n3 ∧ n3 ≤ P) → n2 ≤ n3 → (cs3.length : Int) ≤ cs2.length + 99 * (n3 - n2) → AkS A B Sc T rf n3 cs3 (k + 1) S3 → S3.2.1 500 75 = decide (es = []) → FrQ k (by_ : Int) (node : Int) w p (cs.length : Int) yes true S3 → FC (akP k) S S3 → S3.1 546 k = S1.1 546 k → Ev (fun m => gc (f_X12_hears m (d - 1 - 1) 0 S3 [(k : Int)]) fun x7 S_8 => f_X12_asksMore m (d - 1) 14 S_8 [(k : Int)]) (fun x S2 => (x = 0 ∧ ∃ n1 cs1, AkS A B Sc T refs n1 cs1 (k + 1) S2 ∧ S2.1 545 k = (cs.length : Int) ∧ FC (akP k) S S2 ∧ res = some (n1, cs1) ∧ cs1.length ≤ 219900) ∨ (x = 1 ∧ Ev (fun m => f_X12_asksWhole m d 36 S2 [M]) Q))) → Ev (fun m => f_X12_asksWhole m d 36 S1 [M]) Q := by
      intro rf sub nd b2 n2 cs2 w p yes S1 hsub hb2 hf2 hrf hnd hn2 hn2P hc2 a1 fq1 fqk ff hno hyes
      refine IH rf sub nd (k + 1) b2 n2 cs2 S1 Q hf2 (by omega) hb2 hrf hsub hnd hn2 hn2P hc2 a1 fq1 ?_ (fun hN S3 f3 hM hi => ?_) (fun n3 cs3 hS3 S3 a3 h75 f3 => ?_)
      · rcases hres with z | z
        · exact Or.inl z
        · exact Or.inr (fun y => z (hno y))
      · exact nxN (hno hN) S3 (fc_tr (fc_mono ff (fun c j z => ak_le (Nat.zero_le _) z)) f3) hM hi
      · obtain ⟨es, he⟩ := ask_ext hS3
        obtain ⟨g1, g2, g3⟩ := ask_gr sS.1 lS _ _ _ _ _ _ hS3
        have he' : cs3 = cs2 ++ es := he
        have g1a : (cs3.length : Int) ≤ cs2.length + (0 : Nat) + 99 * (n3 - n2) := g1.2
        have g2' : n2 + 1 ≤ n3 := g2
        have g3' : n3 ≤ P := g3
        have fqk3 := frq_fr fqk f3 (fun c _ _ => by omega)
        refine step S3 n3 a3.2.2.2.2 a3.2.2.2.1 (by omega) ?_
        have e75 : S3.2.1 500 75 = decide (es = []) := by
          rw [h75, he', List.length_append]
          by_cases z : es = []
          · rw [decide_eq_true z, decide_eq_true (by rw [z]; rfl)]
          · rw [decide_eq_false z, decide_eq_false (fun y => z (List.length_eq_zero_iff.mp (by omega)))]
        have h := hyes n3 cs3 es S3 hS3 he' (by omega) (by omega) (by omega) a3 e75 fqk3 (fc_tr ff (fc_mono f3 (fun c j z => ak_le (Nat.le_succ _) z))) (fc_i f3 (by omega))
        refine ev_up (fun n => e_X12_asksMore_0) ?_
        unfold b_X12_asksMore_0
        refine ev_gg (by first | omega | (constructor <;> omega)) ?_
        refine ev_gv ?_
        rw [Int.toNat_natCast, fqk3.2.2]
        refine ev_gg (by decide) ?_
        refine ev_ite (fun z => absurd z (by decide)) (fun _ => ?_)
        refine ev_gg (by first | omega | (constructor <;> omega)) ?_
        exact h
    -- WORD by WORD
    have W : ∀ (u w : Nat) (yes n1 : Int) (cs1 : List (Int × Int)) (S1 : GS), w + u = 16 → 1 ≤ w → (w ≤ 14 → yes = 0) → AkS A B Sc T refs n1 cs1 (k + 1) S1 → FrQ k (by_ : Int) (node : Int) (w : Int) 0 (cs.length : Int) yes false S1 → FC (akP k) S S1 → (cs1.length : Int) + rvW Sc by_ (16 - w) ≤ 99 * n1 → 0 ≤ n1 → n1 ≤ P → res = wdsR Sc T (askR Sc T P f) refs by_ node (16 - w) (n1, cs1) → Ev (fun m => f_X12_asksMore m (d - 1) 64 S1 [(k : Int)]) (fun x S2 => (x = 0 ∧ ∃ n1 cs1, AkS A B Sc T refs n1 cs1 (k + 1) S2 ∧ S2.1 545 k = (cs.length : Int) ∧ FC (akP k) S S2 ∧ res = some (n1, cs1) ∧ cs1.length ≤ 219900) ∨ (x = 1 ∧ Ev (fun m => f_X12_asksWhole m d 36 S2 [M]) Q)) := by
      intro u
      induction u with
      | zero =>
        intro w yes n1 cs1 S1 hwu hw1 hy a1 fq ff hc1 hn1 hn1P hl
        have ew : w = 16 := by omega
        subst ew
        refine ev_up (fun n => e_X12_asksMore_64) ?_
        unfold b_X12_asksMore_64
        refine ev_gg (by first | omega | (constructor <;> omega)) ?_
        refine ev_gv ?_
        rw [Int.toNat_natCast, fq.1.2.1]
        refine ev_gg (by decide) ?_
        refine ev_ite (fun _ => ?_) (fun z => absurd (by decide) z)
        exact ev_ret (Or.inl ⟨rfl, n1, cs1, a1, fq.2.1.1, ff, hl, by omega⟩)
      | succ u ihW =>
        intro w yes n1 cs1 S1 hwu hw1 hy a1 fq ff hc1 hn1 hn1P hl
        have w15 : w ≤ 15 := by omega
        have e16 : 16 - w = (15 - w) + 1 := by omega
        have erv : rvW Sc by_ (16 - w) = costW Sc by_ w + rvW Sc by_ (15 - w) := by
          rw [e16]
          show costW Sc by_ (15 - (15 - w)) + rvW Sc by_ (15 - w) = _
          rw [show 15 - (15 - w) = w by omega]
        have el : res = match wdR Sc T (askR Sc T P f) refs by_ node w (n1, cs1) with
            | none => none
            | some K1 => wdsR Sc T (askR Sc T P f) refs by_ node (15 - w) K1 := by
          rw [hl, e16]
          show (match wdR Sc T (askR Sc T P f) refs by_ node (15 - (15 - w)) (n1, cs1) with
            | none => none
            | some K1 => wdsR Sc T (askR Sc T P f) refs by_ node (15 - w) K1) = _
          rw [show 15 - (15 - w) = w by omega]
        have wl := words_sx w (by omega)
        have vi : inr (vLk Sc (by_ : Int) (sx (30 + w))) := vl_in sS.1 lS
        -- to the next WORD
        have p269 : ∀ (p y n2 : Int) (cs2 : List (Int × Int)) (S2 : GS), AkS A B Sc T refs n2 cs2 (k + 1) S2 → FrQ k (by_ : Int) (node : Int) (w : Int) p (cs.length : Int) y false S2 → FC (akP k) S S2 → (cs2.length : Int) + rvW Sc by_ (15 - w) ≤ 99 * n2 → 0 ≤ n2 → n2 ≤ P → res = wdsR Sc T (askR Sc T P f) refs by_ node (15 - w) (n2, cs2) → Ev (fun m => f_X12_asksMore m (d - 1) 269 S2 [(k : Int)]) (fun x S2 => (x = 0 ∧ ∃ n1 cs1, AkS A B Sc T refs n1 cs1 (k + 1) S2 ∧ S2.1 545 k = (cs.length : Int) ∧ FC (akP k) S S2 ∧ res = some (n1, cs1) ∧ cs1.length ≤ 219900) ∨ (x = 1 ∧ Ev (fun m => f_X12_asksWhole m d 36 S2 [M]) Q)) := by
          intro p y n2 cs2 S2 a2 fq2 ff2 hc2 hn2 hn2P hl2
          refine ev_up (fun n => e_X12_asksMore_269) ?_
          unfold b_X12_asksMore_269
          refine ev_gg (by first | omega | (constructor <;> omega)) ?_
          refine ev_gv ?_
          rw [Int.toNat_natCast, fq2.1.2.1]
          refine ev_gv ?_
          refine ev_gv ?_
          refine ev_gv ?_
          refine ev_gv ?_
          have f3 : FC (f1P k) S2 (gI (gI (gI S2 543 k ((w : Int) + 1)) 544 k 0) 547 k 0) := fc_tr (fc_gI ⟨by decide, by decide, rfl⟩) (fc_tr (fc_gI ⟨by decide, by decide, rfl⟩) (fc_gI ⟨by decide, by decide, rfl⟩))
          have fq3 : FrQ k (by_ : Int) (node : Int) ((w + 1 : Nat) : Int) 0 (cs.length : Int) 0 false (gI (gI (gI S2 543 k ((w : Int) + 1)) 544 k 0) 547 k 0) := by
            obtain ⟨⟨⟨h1, h2⟩, h3, h4⟩, ⟨h5, h6⟩, h7⟩ := fq2
            refine ⟨⟨⟨?_, ?_⟩, ?_, ?_⟩, ⟨?_, ?_⟩, h7⟩
            · rw [gI_c (by decide), gI_c (by decide), gI_c (by decide)]; exact h1
            · rw [gI_c (by decide), gI_c (by decide), gI_c (by decide)]; exact h2
            · rw [gI_c (by decide), gI_c (by decide), gI_a]; omega
            · rw [gI_c (by decide), gI_a]
            · rw [gI_c (by decide), gI_c (by decide), gI_c (by decide)]; exact h5
            · exact gI_a
          exact ihW (w + 1) 0 n2 cs2 _ (by omega) (by omega) (fun _ => rfl) (ak_f1 hk a2 f3) fq3 (fc_tr ff2 (fc_mono f3 (fun c j z => f1_ak z))) (by rw [show 16 - (w + 1) = 15 - w by omega]; exact hc2) hn2 hn2P (by rw [show 16 - (w + 1) = 15 - w by omega]; exact hl2)
        -- the WORD is not said
        by_cases ct : vLk Sc (by_ : Int) (sx (30 + w)) = -1
        · have ew : wdR Sc T (askR Sc T P f) refs by_ node w (n1, cs1) = some (n1, cs1) := by
            unfold wdR
            rw [if_pos ct]
          rw [ew] at el
          refine ev_up (fun n => e_X12_asksMore_64) ?_
          unfold b_X12_asksMore_64
          refine ev_gg (by first | omega | (constructor <;> omega)) ?_
          refine ev_gv ?_
          rw [Int.toNat_natCast, fq.1.2.1]
          refine ev_gg (by first | omega | (constructor <;> omega)) ?_
          refine ev_ite (fun z => by omega) (fun _ => ?_)
          refine ev_gv ?_
          refine ev_gv ?_
          rw [a1.1.1.1]
          refine ev_gv ?_
          rw [fq.1.1.1]
          refine ev_gg (by first | omega | (constructor <;> omega)) ?_
          refine ev_gv ?_
          refine ev_gg (by first | omega | (constructor <;> omega)) ?_
          rw [Int.toNat_natCast]
          refine ev_gc (q_childNamed (d := d - 1 - 1) (K := A) (G := by_) (V := Sc) (by omega) wl.2 rfl kA rfl a1.1.2.1 wS sS.1.2 bl) (fun x S2 q2 => ?_)
          obtain ⟨rfl, _, f2⟩ := q2
          rw [wl.1 hw1, ← vLk_c bl c5, ct]
          have a2 := ak_fr hk a1 f2 (fun c j z => Or.inl z)
          have fq2 := frq_fr fq f2 (fun c _ _ => by omega)
          have ff2 := fc_tr ff (fc_mono f2 (fun c j z => wd_akP (k := k) z))
          refine ev_gg (by decide) ?_
          refine ev_ite (fun _ => ?_) (fun z => by omega)
          refine ev_up (fun n => e_X12_asksMore_135) ?_
          unfold b_X12_asksMore_135
          refine ev_gg (by decide) ?_
          refine ev_ite (fun _ => ?_) (fun z => by omega)
          refine ev_up (fun n => e_X12_asksMore_176) ?_
          unfold b_X12_asksMore_176
          refine ev_gg (by decide) ?_
          refine ev_ite (fun _ => ?_) (fun z => by omega)
          refine ev_up (fun n => e_X12_asksMore_204) ?_
          unfold b_X12_asksMore_204
          refine ev_gg (by decide) ?_
          refine ev_ite (fun _ => ?_) (fun z => by omega)
          exact p269 0 yes n1 cs1 S2 a2 fq2 ff2 (by omega) hn1 hn1P el
        obtain ⟨said, es, sl⟩ := vl_at (c := by_) (q := sx (30 + w)) sS.1 ct
        obtain ⟨ho, hok1, hok2⟩ := bw w said hw1 w15 es
        have sk : said ∈ kids Sc by_ := vl_kid es
        have hs1 := hgt_kid sS.1 bl sk hb
        have ecost : costW Sc by_ w = if w = 6 then (kids Sc said).length else 1 := by
          unfold costW
          rw [if_neg ct, es, Int.toNat_natCast]
        have ewd : wdR Sc T (askR Sc T P f) refs by_ node w (n1, cs1) = if w ≤ 6 ∨ w = 10 then some (n1, cs1 ++ plR Sc T w said node) else match lqR (fun sub nd K => askR Sc T P f (if w = 15 then refs ++ [(sub, (node : Int))] else refs) sub nd K) (decide (12 ≤ w ∧ w ≤ 14)) (qsL Sc T refs w by_ said node) 0 (n1, cs1) with
            | none => none
            | some r => some (r.2.1, r.2.2 ++ if hsB w 0 r.1 (decide (w = 15 ∧ tgF Sc refs said node = -2)) = true then [] else [((node : Int), (w : Int))]) := by
          unfold wdR
          rw [if_neg ct, es, Int.toNat_natCast]
          rfl
        rw [ewd] at el
        -- the WORD is looked up
        have look : ∀ (S2 : GS) (n2 : Int) (cs2 : List (Int × Int)) (p y : Int) (R : Int → GS → Prop), AkS A B Sc T refs n2 cs2 (k + 1) S2 → FrQ k (by_ : Int) (node : Int) (w : Int) p (cs.length : Int) y false S2 → (∀ S3, AkS A B Sc T refs n2 cs2 (k + 1) S3 → FrQ k (by_ : Int) (node : Int) (w : Int) p (cs.length : Int) y false S3 → FC wdP S2 S3 → Ev (fun m => f_X12_asksMore m (d - 1) (if w < 7 ∨ w = 10 then 120 else 135) S3 [(k : Int), (w : Int), (said : Int)]) R) → Ev (fun m => f_X12_asksMore m (d - 1) 64 S2 [(k : Int)]) R := by
          intro S2 n2 cs2 p y R a2 fq2 hE
          refine ev_up (fun n => e_X12_asksMore_64) ?_
          unfold b_X12_asksMore_64
          refine ev_gg (by first | omega | (constructor <;> omega)) ?_
          refine ev_gv ?_
          rw [Int.toNat_natCast, fq2.1.2.1]
          refine ev_gg (by first | omega | (constructor <;> omega)) ?_
          refine ev_ite (fun z => by omega) (fun _ => ?_)
          refine ev_gv ?_
          refine ev_gv ?_
          rw [a2.1.1.1]
          refine ev_gv ?_
          rw [fq2.1.1.1]
          refine ev_gg (by first | omega | (constructor <;> omega)) ?_
          refine ev_gv ?_
          refine ev_gg (by first | omega | (constructor <;> omega)) ?_
          rw [Int.toNat_natCast]
          refine ev_gc (q_childNamed (d := d - 1 - 1) (K := A) (G := by_) (V := Sc) (by omega) wl.2 rfl kA rfl a2.1.2.1 wS sS.1.2 bl) (fun x S3 q3 => ?_)
          obtain ⟨rfl, _, f3⟩ := q3
          rw [wl.1 hw1, ← vLk_c bl c5, es]
          have h := hE S3 (ak_fr hk a2 f3 (fun c j z => Or.inl z)) (frq_fr fq2 f3 (fun c _ _ => by omega)) f3
          refine ev_gg (by first | omega | (constructor <;> omega)) ?_
          refine ev_ite (fun z => by omega) (fun _ => ?_)
          refine ev_gg (by first | omega | (constructor <;> omega)) ?_
          refine ev_ite (fun z => ?_) (fun z => ?_)
          · rw [if_pos (Or.inl (by omega))] at h
            exact h
          · refine ev_ite (fun z2 => ?_) (fun z2 => ?_)
            · rw [if_neg (by omega)] at h
              exact h
            · rw [if_pos (Or.inr (by omega))] at h
              exact h
        by_cases cp : w ≤ 6 ∨ w = 10
        · -- it asks nothing
          rw [if_pos cp] at el
          refine look S1 n1 cs1 0 yes _ a1 fq (fun S2 a2 fq2 f2 => ?_)
          rw [if_pos (show w < 7 ∨ w = 10 by omega)]
          refine ev_up (fun n => e_X12_asksMore_120) ?_
          unfold b_X12_asksMore_120
          refine ev_gg (by first | omega | (constructor <;> omega)) ?_
          refine ev_gv ?_
          rw [Int.toNat_natCast, fq2.1.1.2]
          refine ev_gg (by first | omega | (constructor <;> omega)) ?_
          refine ev_gc (q_says3 (d := d - 1 - 1) (w := w) (said := said) (node := node) (by omega) hk a2.1 a2.2.2.1 (by rw [← ecost]; omega) sl hn ⟨hw1, by omega⟩ ho) (fun _ S3 q3 => ?_)
          obtain ⟨c3, f3⟩ := q3
          have pl := pl_len (Sc := Sc) (T := T) (w := w) (said := said) (node := node)
          rw [← ecost] at pl
          exact p269 0 yes n1 _ S3 ⟨ab_fr hk a2.1 f3 (fun c j z => sy_ck z), ref_fr a2.2.1 f3 (by omega) (fun j => by omega) (fun j => by omega), c3, (fc_i f3 (by omega)).trans a2.2.2.2.1, (fc_i f3 (by omega)).trans a2.2.2.2.2⟩ (frq_fr fq2 f3 (fun c _ _ => by omega)) (fc_tr ff (fc_tr (fc_mono f2 (fun c j z => wd_akP (k := k) z)) (fc_mono f3 (fun c j z => sy_ak z)))) (by rw [List.length_append]; omega) hn1 hn1P el
        rw [if_neg cp] at el
        rw [if_neg (show ¬ w = 6 by omega)] at ecost
        by_cases c14 : w = 14
        · -- not
          subst c14
          have e0 : yes = 0 := hy (by decide)
          subst e0
          have eq : qsL Sc T refs 14 by_ said node = [((said : Int), (node : Int))] := rfl
          rw [eq] at el
          have el2 : res = match askR Sc T P f refs (said : Int) (node : Int) (n1, cs1) with
              | none => none
              | some K1 => wdsR Sc T (askR Sc T P f) refs by_ node 1 (K1.1, cs1 ++ if K1.2.length = cs1.length then [((node : Int), 14)] else []) := by
            have eL : lqR (fun sub nd K => askR Sc T P f (if (14 : Nat) = 15 then refs ++ [(sub, (node : Int))] else refs) sub nd K) (decide (12 ≤ 14 ∧ 14 ≤ 14)) [((said : Int), (node : Int))] 0 (n1, cs1) = if (said : Int) = -1 then (some ((0 : Int), ((n1, cs1) : RK)) : Option (Int × RK)) else match askR Sc T P f refs (said : Int) (node : Int) (n1, cs1) with
              | none => none
              | some K1 => (some ((0 : Int) + (if K1.2.length = cs1.length then 1 else 0), ((K1.1, cs1) : RK)) : Option (Int × RK)) := rfl
            rw [eL, if_neg (by omega)] at el
            rw [el]
            cases askR Sc T P f refs (said : Int) (node : Int) (n1, cs1) with
            | none => rfl
            | some K1 =>
              show wdsR Sc T (askR Sc T P f) refs by_ node 1 (K1.1, cs1 ++ if hsB 14 0 (0 + (if K1.2.length = cs1.length then 1 else 0)) (decide ((14 : Nat) = 15 ∧ tgF Sc refs said node = -2)) = true then [] else [((node : Int), ((14 : Nat) : Int))]) = wdsR Sc T (askR Sc T P f) refs by_ node 1 (K1.1, cs1 ++ if K1.2.length = cs1.length then [((node : Int), 14)] else [])
              by_cases z : K1.2.length = cs1.length
              · rw [if_pos z, if_pos z]
                rfl
              · rw [if_neg z, if_neg z]
                rfl
          refine look S1 n1 cs1 0 0 _ a1 fq (fun S2 a2 fq2 f2 => ?_)
          rw [if_neg (by omega)]
          refine ev_up (fun n => e_X12_asksMore_135) ?_
          unfold b_X12_asksMore_135
          refine ev_gg (by first | omega | (constructor <;> omega)) ?_
          refine ev_ite (fun z => by omega) (fun _ => ?_)
          refine ev_gg (by decide) ?_
          refine ev_ite (fun z => absurd rfl z) (fun _ => ?_)
          refine ev_gv ?_
          rw [a2.2.2.1.1]
          refine ev_gg (by first | omega | (constructor <;> omega)) ?_
          refine ev_gv ?_
          refine ev_gv ?_
          rw [Int.toNat_natCast]
          refine ev_gv ?_
          rw [gB_i, gI_c (show (542 : Nat) ≠ 546 by decide), fq2.1.1.2]
          have f3 : FC (f1P k) S2 (gB (gI S2 546 k (cs1.length : Int)) 548 k (decide ((1 : Int) = 1))) := fc_tr (fc_gI ⟨by decide, by decide, rfl⟩) (fc_gB ⟨by decide, by decide, rfl⟩)
          have a3 := ak_f1 hk a2 f3
          have fq3 : FrQ k (by_ : Int) (node : Int) ((14 : Nat) : Int) 0 (cs.length : Int) 0 true (gB (gI S2 546 k (cs1.length : Int)) 548 k (decide ((1 : Int) = 1))) := by
            obtain ⟨⟨⟨h1, h2⟩, h3, h4⟩, ⟨h5, h6⟩, h7⟩ := fq2
            refine ⟨⟨⟨?_, ?_⟩, ?_, ?_⟩, ⟨?_, ?_⟩, ?_⟩
            · rw [gB_i, gI_c (by decide)]; exact h1
            · rw [gB_i, gI_c (by decide)]; exact h2
            · rw [gB_i, gI_c (by decide)]; exact h3
            · rw [gB_i, gI_c (by decide)]; exact h4
            · rw [gB_i, gI_c (by decide)]; exact h5
            · rw [gB_i, gI_c (by decide)]; exact h6
            · rw [gB_a]; rfl
          have m3 : (gB (gI S2 546 k (cs1.length : Int)) 548 k (decide ((1 : Int) = 1))).1 546 k = (cs1.length : Int) := by rw [gB_i]; exact gI_a
          generalize gB (gI S2 546 k (cs1.length : Int)) 548 k (decide ((1 : Int) = 1)) = S3 at f3 a3 fq3 m3 ⊢
          refine ev_gg (by first | omega | (constructor <;> omega)) ?_
          refine ev_gc (q_asksOf (d := d - 1 - 1) (a := (said : Int)) (b := (node : Int)) hk a3 (by omega)) (fun _ S4 q4 => ?_)
          obtain ⟨a4, fr4, f4⟩ := q4
          refine ev_ret (Or.inr ⟨rfl, ?_⟩)
          have fq4 := frq_fr fq3 f4 (fun c _ _ => by omega)
          have m4 := (fc_i f4 (show ¬ ((546 = 500 ∧ (k = 64 ∨ k = 66)) ∨ f1P (k + 1) 546 k) by omega)).trans m3
          have ff4 : FC (akP k) S S4 := fc_tr ff (fc_tr (fc_mono f2 (fun c j z => wd_akP (k := k) z)) (fc_tr (fc_mono f3 (fun c j z => f1_ak z)) (fc_mono f4 (fun c j z => ao2_ak z))))
          refine go refs said node (b - 1) n1 cs1 _ _ _ S4 (hok2 (by omega)) hs1 (by omega) hr hn hn1 hn1P (by omega) a4 fr4 fq4 ff4 (fun z => by rw [el2, z]) (fun n3 cs3 es3 S5 hS5 he hn3 h23 hg5 a5 h75 fq5 ff5 m5 => ?_)
          rw [he] at a5
          rw [he, List.length_append] at hg5
          refine ev_gc (q_hears2 (d := d - 1 - 1) (cs := cs1) (by omega) hk fq5 a5 (m5.trans m4) h75 (by omega) (by decide) (by omega) (by omega)) (fun _ S6 q6 => ?_)
          obtain ⟨⟨y6, fq6⟩, a6, f6⟩ := q6
          have ff6 : FC (akP k) S S6 := fc_tr ff5 (fc_mono f6 (fun c j z => z.elim f1_ak cs_ak))
          refine p14 _ S6 n3 _ refs 15 0 y6 a6 fq6 ?_
          have e3 : res = wdsR Sc T (askR Sc T P f) refs by_ node 1 (n3, cs1 ++ if es3 = [] then [((node : Int), 14)] else []) := by
            rw [el2, hS5, he]
            show wdsR Sc T (askR Sc T P f) refs by_ node 1 (n3, cs1 ++ if (cs1 ++ es3).length = cs1.length then [((node : Int), 14)] else []) = _
            by_cases z : es3 = []
            · rw [if_pos z, if_pos (by rw [z, List.append_nil])]
            · rw [if_neg z, if_neg (fun y => z (List.length_eq_zero_iff.mp (by rw [List.length_append] at y; omega)))]
          refine ihW 15 y6 n3 _ S6 (by omega) (by decide) (fun z => by omega) a6 fq6 ff6 ?_ hn3.1 hn3.2 e3
          rw [List.length_append]
          have e15 : rvW Sc by_ (16 - 15) = rvW Sc by_ (15 - 14) := rfl
          rw [e15]
          split
          · rw [List.length_singleton]; omega
          · rw [List.length_nil]; omega
        by_cases c15 : w = 15
        · -- ref
          subst c15
          have e0 : ∀ r1 : Int, hsB 15 0 r1 (decide (15 = 15 ∧ tgF Sc refs said node = -2)) = !decide (tgF Sc refs said node = -2) := fun r1 => by
            by_cases z : tgF Sc refs said node = -2
            · rw [decide_eq_true z, decide_eq_true ⟨rfl, z⟩]; rfl
            · rw [decide_eq_false z, decide_eq_false (fun y => z y.2)]; rfl
          have eq : qsL Sc T refs 15 by_ said node = if tgF Sc refs said node < 0 then [] else [(tgF Sc refs said node, (node : Int))] := rfl
          rw [eq] at el
          refine look S1 n1 cs1 0 yes _ a1 fq (fun S2 a2 fq2 f2 => ?_)
          rw [if_neg (by omega)]
          have ff2 : FC (akP k) S S2 := fc_tr ff (fc_mono f2 (fun c j z => wd_akP (k := k) z))
          refine ev_up (fun n => e_X12_asksMore_135) ?_
          unfold b_X12_asksMore_135
          refine ev_gg (by first | omega | (constructor <;> omega)) ?_
          refine ev_ite (fun z => by omega) (fun _ => ?_)
          refine ev_gg (by decide) ?_
          refine ev_ite (fun _ => ?_) (fun z => absurd (by decide) z)
          refine ev_up (fun n => e_X12_asksMore_176) ?_
          unfold b_X12_asksMore_176
          refine ev_gg (by first | omega | (constructor <;> omega)) ?_
          refine ev_ite (fun z => by omega) (fun _ => ?_)
          refine ev_gg (by decide) ?_
          refine ev_ite (fun z => absurd rfl z) (fun _ => ?_)
          refine ev_gg (by first | omega | (constructor <;> omega)) ?_
          refine ev_gv ?_
          rw [Int.toNat_natCast, fq2.1.1.2]
          refine ev_gg (by first | omega | (constructor <;> omega)) ?_
          refine ev_gc (R := fun x S3 => (x = 0 ∧ ∃ cs3, AkS A B Sc T refs n1 cs3 (k + 1) S3 ∧ FrQ k (by_ : Int) (node : Int) 15 0 (cs.length : Int) yes false S3 ∧ FC (akP k) S S3 ∧ cs3.length ≤ cs1.length + 1 ∧ res = wdsR Sc T (askR Sc T P f) refs by_ node 0 (n1, cs3)) ∨ (x = 1 ∧ Ev (fun m => f_X12_asksWhole m d 36 S3 [M]) Q)) (q_asksRef (d := d - 1 - 1) (said := said) (node := node) (p := 0) (beg := (cs.length : Int)) (yes := yes) (by_ := by_) (by omega) hk hr a2 fq2 sl hn (ho.2.2 rfl) (by omega) (by omega) (fun ht S3 a3 fq3 f3 => ?_) (fun ht S3 a3 fq3 f3 => ?_) (fun t ht r13 tl S3 a3 fq3 fr3 f3 => ?_)) (fun x S3 q3 => ?_)
          · refine Or.inl ⟨rfl, _, a3, fq3, fc_tr ff2 f3, by rw [List.length_append, List.length_singleton]; omega, ?_⟩
            rw [el, ht]
            show wdsR Sc T (askR Sc T P f) refs by_ node 0 (n1, cs1 ++ if hsB 15 0 0 (decide (15 = 15 ∧ (-2 : Int) = -2)) = true then [] else [((node : Int), ((15 : Nat) : Int))]) = _
            rfl
          · refine Or.inl ⟨rfl, _, a3, fq3, fc_tr ff2 f3, by omega, ?_⟩
            rw [el, ht]
            show wdsR Sc T (askR Sc T P f) refs by_ node 0 (n1, cs1 ++ if hsB 15 0 0 (decide (15 = 15 ∧ (-1 : Int) = -2)) = true then [] else [((node : Int), ((15 : Nat) : Int))]) = _
            show wdsR Sc T (askR Sc T P f) refs by_ node 0 (n1, cs1 ++ []) = _
            rw [List.append_nil]
          · refine Or.inr ⟨rfl, ?_⟩
            have kt : ok t := by
              refine hok.2 (tI Sc (said : Int)) t ?_
              unfold tgF at ht
              split at ht
              · omega
              · split at ht
                · omega
                · split at ht
                  · omega
                  · exact ht
            have ht10 : ∀ r, dpS r (sg Sc t) ≤ 10 := by
              have et : vLk Sc (vLk Sc 0 (sx 53)) (tI Sc (said : Int)) = (t : Int) := by
                unfold tgF at ht
                split at ht
                · omega
                · split at ht
                  · omega
                  · split at ht
                    · omega
                    · exact ht
              have l0 := sS.1.1.2.1
              rcases vLk_r wS zS 0 (sx 53) with y | y
              · rw [y, vl_neg] at et
                omega
              · obtain ⟨t0, e0⟩ : ∃ t0 : Nat, vLk Sc 0 (sx 53) = (t0 : Int) := ⟨(vLk Sc 0 (sx 53)).toNat, by omega⟩
                rw [e0] at et
                have k0 : t0 ∈ kids Sc 0 := vl_kid (i := 0) e0
                have k1 : t ∈ kids Sc t0 := vl_kid et
                have d0 : ∀ r, dpS r (sg Sc 0) ≤ 12 := dp_sg Sc.length Sc (Nat.le_refl _) sS.1 dS 0 (by omega)
                have d1 := hgt_kid sS.1 (by omega) k0 d0
                have d2 := hgt_kid sS.1 (by omega) k1 d1
                exact fun r => by have := d2 r; omega
            have rk2 : RefK (refs ++ [((t : Int), (node : Int))]) := ⟨by rw [List.length_append, List.length_singleton]; omega, fun x hx => by
              rcases List.mem_append.mp hx with z | z
              · exact hr.2 x z
              · rw [List.mem_singleton] at z
                rw [z]
                exact ⟨⟨by show (0 : Int) ≤ (t : Int); omega, by show (t : Int) < 100; omega⟩, by show (0 : Int) ≤ (node : Int); omega, by show (node : Int) < 100; omega⟩⟩
            rw [ht, if_neg (show ¬ (t : Int) < 0 by omega)] at el
            have el2 : res = match askR Sc T P f (refs ++ [((t : Int), (node : Int))]) (t : Int) (node : Int) (n1, cs1) with
                | none => none
                | some K1 => wdsR Sc T (askR Sc T P f) refs by_ node 0 K1 := by
              have eL : lqR (fun sub nd K => askR Sc T P f (if (15 : Nat) = 15 then refs ++ [(sub, (node : Int))] else refs) sub nd K) (decide (12 ≤ 15 ∧ 15 ≤ 14)) [((t : Int), (node : Int))] 0 (n1, cs1) = if (t : Int) = -1 then (some ((0 : Int), ((n1, cs1) : RK)) : Option (Int × RK)) else match askR Sc T P f (refs ++ [((t : Int), (node : Int))]) (t : Int) (node : Int) (n1, cs1) with
                | none => none
                | some K1 => (some ((0 : Int), K1) : Option (Int × RK)) := rfl
              rw [eL, if_neg (by omega)] at el
              rw [el]
              cases askR Sc T P f (refs ++ [((t : Int), (node : Int))]) (t : Int) (node : Int) (n1, cs1) with
              | none => rfl
              | some K1 =>
                show wdsR Sc T (askR Sc T P f) refs by_ node 0 (K1.1, K1.2 ++ if hsB 15 0 0 (decide (15 = 15 ∧ (t : Int) = -2)) = true then [] else [((node : Int), ((15 : Nat) : Int))]) = _
                rw [decide_eq_false (fun y : 15 = 15 ∧ (t : Int) = -2 => by have := y.2; omega)]
                show wdsR Sc T (askR Sc T P f) refs by_ node 0 (K1.1, K1.2 ++ []) = _
                rw [List.append_nil]
            refine go (refs ++ [((t : Int), (node : Int))]) t node 10 n1 cs1 _ _ _ S3 kt ht10 (by rw [List.length_append, List.length_singleton]; omega) rk2 hn hn1 hn1P (by omega) a3 fr3 fq3 (fc_tr ff2 f3) (fun z => by rw [el2, z]) (fun n3 cs3 es3 S5 hS5 he hn3 h23 hg5 a5 h75 fq5 ff5 m5 => ?_)
            refine ev_gc (q_hears3 (d := d - 1 - 1) hk fq5 a5 (by omega)) (fun _ S6 q6 => ?_)
            obtain ⟨fq6, a6, f6⟩ := q6
            have ff6 : FC (akP k) S S6 := fc_tr ff5 (fc_mono f6 (fun c j z => z.elim f1_ak (fun y => i5_ak ⟨y.1, by omega⟩)))
            refine p14 _ S6 n3 _ refs 16 0 yes a6 fq6 ?_
            refine ihW 16 yes n3 cs3 S6 (by omega) (by decide) (fun z => by omega) a6 fq6 ff6 ?_ hn3.1 hn3.2 (by rw [el2, hS5])
            have e15 : rvW Sc by_ (16 - 16) = 0 := rfl
            rw [e15]
            omega
          · rcases q3 with ⟨rfl, cs3, a3, fq3, f3, l3, r3⟩ | ⟨rfl, hQ⟩
            · refine ev_gg (by decide) ?_
              refine ev_ite (fun _ => ?_) (fun z => by omega)
              exact p269 0 yes n1 cs3 S3 a3 fq3 f3 (by omega) hn1 hn1P r3
            · refine ev_gg (by decide) ?_
              refine ev_ite (fun z => absurd z (by decide)) (fun _ => ?_)
              exact ev_ret (Or.inr ⟨rfl, hQ⟩)
        -- it asks one after another
        have hw7 : 7 ≤ w ∧ w ≤ 13 ∧ w ≠ 10 := by omega
        have eg : (fun (sub nd : Int) (K : RK) => askR Sc T P f (if w = 15 then refs ++ [(sub, (node : Int))] else refs) sub nd K) = fun sub nd K => askR Sc T P f refs sub nd K := by
          funext sub nd K
          rw [if_neg c15]
        have lq100 := qs_len2 (Sc := Sc) (T := T) (refs := refs) (w := w) (by_ := by_) (kids_100 wS zS lS sl) (kids_100 sT.1.1.1 (pz_l sT.1.2) lT hn)
        have eno : decide (w = 15 ∧ tgF Sc refs said node = -2) = false := decide_eq_false (fun y => c15 y.1)
        rw [eg, eno] at el
        have LP : ∀ (m p : Nat) (y n2 : Int) (cs2 : List (Int × Int)) (S2 : GS), (qsL Sc T refs w by_ said node).length - p < m → p ≤ (qsL Sc T refs w by_ said node).length → (0 ≤ y ∧ y ≤ p) → AkS A B Sc T refs n2 cs2 (k + 1) S2 → FrQ k (by_ : Int) (node : Int) (w : Int) (p : Int) (cs.length : Int) y false S2 → FC (akP k) S S2 → (cs2.length : Int) + 1 + rvW Sc by_ (15 - w) ≤ 99 * n2 → 0 ≤ n2 → n2 ≤ P → res = (match (match lqR (fun sub nd K => askR Sc T P f refs sub nd K) (decide (12 ≤ w ∧ w ≤ 14)) ((qsL Sc T refs w by_ said node).drop p) y (n2, cs2) with
            | none => none
            | some r => some (r.2.1, r.2.2 ++ if hsB w 0 r.1 false = true then [] else [((node : Int), (w : Int))]) : Option RK) with
            | none => none
            | some K1 => wdsR Sc T (askR Sc T P f) refs by_ node (15 - w) K1) → Ev (fun m => f_X12_asksMore m (d - 1) 64 S2 [(k : Int)]) (fun x S2 => (x = 0 ∧ ∃ n1 cs1, AkS A B Sc T refs n1 cs1 (k + 1) S2 ∧ S2.1 545 k = (cs.length : Int) ∧ FC (akP k) S S2 ∧ res = some (n1, cs1) ∧ cs1.length ≤ 219900) ∨ (x = 1 ∧ Ev (fun m => f_X12_asksWhole m d 36 S2 [M]) Q)) := by
          intro m
          induction m with
          | zero => intro p y n2 cs2 S2 hm; omega
          | succ m ihm =>
            intro p y n2 cs2 S2 hm hp hy2 a2 fq2 ff2 hc2 hn2 hn2P hl2
            refine look S2 n2 cs2 p y _ a2 fq2 (fun S3 a3 fq3 f3 => ?_)
            rw [if_neg (by omega)]
            have ff3 : FC (akP k) S S3 := fc_tr ff2 (fc_mono f3 (fun c j z => wd_akP (k := k) z))
            refine ev_up (fun n => e_X12_asksMore_135) ?_
            unfold b_X12_asksMore_135
            refine ev_gg (by first | omega | (constructor <;> omega)) ?_
            refine ev_ite (fun z => by omega) (fun _ => ?_)
            refine ev_gg (by first | omega | (constructor <;> omega)) ?_
            refine ev_ite (fun _ => ?_) (fun z => by omega)
            refine ev_up (fun n => e_X12_asksMore_176) ?_
            unfold b_X12_asksMore_176
            refine ev_gg (by first | omega | (constructor <;> omega)) ?_
            refine ev_ite (fun z => by omega) (fun _ => ?_)
            refine ev_gg (by first | omega | (constructor <;> omega)) ?_
            refine ev_ite (fun _ => ?_) (fun z => by omega)
            refine ev_up (fun n => e_X12_asksMore_204) ?_
            unfold b_X12_asksMore_204
            refine ev_gg (by first | omega | (constructor <;> omega)) ?_
            refine ev_ite (fun z => by omega) (fun _ => ?_)
            refine ev_gg (by first | omega | (constructor <;> omega)) ?_
            refine ev_gv ?_
            rw [Int.toNat_natCast, fq3.1.1.2]
            refine ev_gg (by first | omega | (constructor <;> omega)) ?_
            refine ev_gc (R := fun x S4 => (x = 0 ∧ ∃ p1 : Nat, AkS A B Sc T refs n2 cs2 (k + 1) S4 ∧ FrQ k (by_ : Int) (node : Int) (w : Int) (p1 : Int) (cs.length : Int) y false S4 ∧ FC (akP k) S S4 ∧ res = wdsR Sc T (askR Sc T P f) refs by_ node (15 - w) (n2, cs2 ++ if hsB w 0 y false = true then [] else [((node : Int), (w : Int))])) ∨ (x = 1 ∧ Ev (fun m => f_X12_asksWhole m d 36 S4 [M]) Q)) (q_asksNext (d := d - 1 - 1) (by_ := by_) (said := said) (node := node) (w := w) (p := p) (beg := (cs.length : Int)) (yes := y) (by omega) hk a3 fq3 bl c5 sl hn hw7 ho.2.1 (fun w8 t et => ?_) (by omega) hp (fun p1 S4 hq a4 fq4 f4 => ?_) (fun p1 sub nd S4 hp1 hq1 hsub hnd hpp hq a4 fq4 m4 fr4 f4 => ?_)) (fun x S4 q4 => ?_)
            · exact (bw 7 t (by decide) (by decide) et).1.2.1 rfl
            · refine Or.inl ⟨rfl, p1, a4, fq4, fc_tr ff3 f4, ?_⟩
              rw [hl2, hq]
            · refine Or.inr ⟨rfl, ?_⟩
              have qs := qs_sub hp1 hq1 hw7
              have hsb : ok sub ∧ ∀ r, dpS r (sg Sc sub) ≤ b - 1 := by
                by_cases z : w = 8 ∨ w = 9
                · rw [qs.2 z]
                  exact ⟨hok2 (by omega), hs1⟩
                · have mk := qs.1 (by omega)
                  exact ⟨hok1 (by omega) sub mk, fun r => by have := hgt_kid sS.1 sl mk hs1 r; omega⟩
              have el2 : res = match askR Sc T P f refs (sub : Int) (nd : Int) (n2, cs2) with
                  | none => none
                  | some K1 => (match (match lqR (fun sub nd K => askR Sc T P f refs sub nd K) (decide (12 ≤ w ∧ w ≤ 14)) ((qsL Sc T refs w by_ said node).drop (p1 + 1)) (if decide (12 ≤ w ∧ w ≤ 14) = true then (y + if K1.2.length = cs2.length then 1 else 0) else y) (if decide (12 ≤ w ∧ w ≤ 14) = true then (K1.1, cs2) else K1) with
                    | none => none
                    | some r => some (r.2.1, r.2.2 ++ if hsB w 0 r.1 false = true then [] else [((node : Int), (w : Int))]) : Option RK) with
                    | none => none
                    | some K1 => wdsR Sc T (askR Sc T P f) refs by_ node (15 - w) K1) := by
                rw [hl2, hq]
                have eL : ∀ cut : Bool, lqR (fun sub nd K => askR Sc T P f refs sub nd K) cut (((sub : Int), (nd : Int)) :: (qsL Sc T refs w by_ said node).drop (p1 + 1)) y (n2, cs2) = if (sub : Int) = -1 then lqR (fun sub nd K => askR Sc T P f refs sub nd K) cut ((qsL Sc T refs w by_ said node).drop (p1 + 1)) y (n2, cs2) else match askR Sc T P f refs (sub : Int) (nd : Int) (n2, cs2) with
                  | none => none
                  | some K1 => if cut = true then lqR (fun sub nd K => askR Sc T P f refs sub nd K) cut ((qsL Sc T refs w by_ said node).drop (p1 + 1)) (y + if K1.2.length = cs2.length then 1 else 0) (K1.1, cs2) else lqR (fun sub nd K => askR Sc T P f refs sub nd K) cut ((qsL Sc T refs w by_ said node).drop (p1 + 1)) y K1 := fun _ => rfl
                rw [eL, if_neg (by omega)]
                cases askR Sc T P f refs (sub : Int) (nd : Int) (n2, cs2) with
                | none => rfl
                | some K1 =>
                  generalize decide (12 ≤ w ∧ w ≤ 14) = cut
                  cases cut <;> rfl
              refine go refs sub nd (b - 1) n2 cs2 _ _ _ S4 hsb.1 hsb.2 (by omega) hr hnd hn2 hn2P (by omega) a4 fr4 fq4 (fc_tr ff3 f4) (fun z => by rw [el2, z]) (fun n3 cs3 es3 S5 hS5 he hn3 h23 hg5 a5 h75 fq5 ff5 m5 => ?_)
              rw [hS5] at el2
              by_cases cc : 12 ≤ w ∧ w ≤ 14
              · have el3 : res = (match (match lqR (fun sub nd K => askR Sc T P f refs sub nd K) (decide (12 ≤ w ∧ w ≤ 14)) ((qsL Sc T refs w by_ said node).drop (p1 + 1)) (y + if cs3.length = cs2.length then 1 else 0) (n3, cs2) with
                    | none => none
                    | some r => some (r.2.1, r.2.2 ++ if hsB w 0 r.1 false = true then [] else [((node : Int), (w : Int))]) : Option RK) with
                    | none => none
                    | some K1 => wdsR Sc T (askR Sc T P f) refs by_ node (15 - w) K1) := by
                  have : decide (12 ≤ w ∧ w ≤ 14) = true := decide_eq_true cc
                  rw [el2]
                  simp only [this, if_true]
                rw [he] at a5
                refine ev_gc (q_hears1 (d := d - 1 - 1) (cs := cs2) hk fq5 a5 (m5.trans m4) h75 (by omega) (by omega) (by omega)) (fun _ S6 q6 => ?_)
                obtain ⟨fq6, a6, f6⟩ := q6
                have ff6 : FC (akP k) S S6 := fc_tr ff5 (fc_mono f6 (fun c j z => z.elim f1_ak (fun y => i5_ak ⟨y.1, by omega⟩)))
                refine p14 _ S6 n3 _ refs _ _ _ a6 fq6 ?_
                have ey : (if cs3.length = cs2.length then 1 else 0 : Int) = if es3 = [] then 1 else 0 := by
                  rw [he, List.length_append]
                  by_cases z : es3 = []
                  · rw [if_pos z, if_pos (by rw [z]; rfl)]
                  · rw [if_neg z, if_neg (fun q => z (List.length_eq_zero_iff.mp (by omega)))]
                rw [ey] at el3
                exact ihm (p1 + 1) _ n3 cs2 S6 (by omega) (by omega) (by split <;> omega) a6 fq6 ff6 (by omega) hn3.1 hn3.2 el3
              · have el3 : res = (match (match lqR (fun sub nd K => askR Sc T P f refs sub nd K) (decide (12 ≤ w ∧ w ≤ 14)) ((qsL Sc T refs w by_ said node).drop (p1 + 1)) y (n3, cs3) with
                    | none => none
                    | some r => some (r.2.1, r.2.2 ++ if hsB w 0 r.1 false = true then [] else [((node : Int), (w : Int))]) : Option RK) with
                    | none => none
                    | some K1 => wdsR Sc T (askR Sc T P f) refs by_ node (15 - w) K1) := by
                  have : decide (12 ≤ w ∧ w ≤ 14) = false := decide_eq_false cc
                  rw [el2]
                  simp only [this, if_false, Bool.false_eq_true]
                refine ev_gc (q_hears0 (d := d - 1 - 1) fq5 (by omega) (by omega)) (fun _ S6 q6 => ?_)
                obtain ⟨fq6, f6⟩ := q6
                have ff6 : FC (akP k) S S6 := fc_tr ff5 (fc_mono f6 (fun c j z => f1_ak z))
                have a6 := ak_f1 hk a5 f6
                refine p14 _ S6 n3 _ refs _ _ _ a6 fq6 ?_
                exact ihm (p1 + 1) _ n3 cs3 S6 (by omega) (by omega) (by omega) a6 fq6 ff6 (by omega) hn3.1 hn3.2 el3
            · rcases q4 with ⟨rfl, p1, a4, fq4, f4, r4⟩ | ⟨rfl, hQ⟩
              · refine ev_gg (by decide) ?_
                refine ev_ite (fun _ => ?_) (fun z => by omega)
                have cpl : hsB w 0 y false = false → Ev (fun m => gc (f_X12_complains m (d - 1 - 1) 0 S4 [(node : Int), (w : Int)]) fun x20 S_21 => f_X12_asksMore m (d - 1) 269 S_21 [(k : Int)]) (fun x S2 => (x = 0 ∧ ∃ n1 cs1, AkS A B Sc T refs n1 cs1 (k + 1) S2 ∧ S2.1 545 k = (cs.length : Int) ∧ FC (akP k) S S2 ∧ res = some (n1, cs1) ∧ cs1.length ≤ 219900) ∨ (x = 1 ∧ Ev (fun m => f_X12_asksWhole m d 36 S2 [M]) Q)) := by
                  intro hh
                  rw [hh, if_neg (show ¬ (false = true) by decide)] at r4
                  refine ev_gc (q_complains (d := d - 1 - 1) (a := (node : Int)) (w := (w : Int)) a4.2.2.1 (by omega) ⟨⟨by omega, by omega⟩, by omega, by omega⟩) (fun _ S5 q5 => ?_)
                  obtain ⟨c5', f5⟩ := q5
                  exact p269 _ y n2 _ S5 ⟨ab_fr hk a4.1 f5 (fun c j z => cs_ck z), ref_fr a4.2.1 f5 (by omega) (fun j => by omega) (fun j => by omega), c5', (fc_i f5 (by omega)).trans a4.2.2.2.1, (fc_i f5 (by omega)).trans a4.2.2.2.2⟩ (frq_fr fq4 f5 (fun c _ _ => by omega)) (fc_tr f4 (fc_mono f5 (fun c j z => cs_ak z))) (by rw [List.length_append, List.length_singleton]; omega) hn2 hn2P r4
                have fin : hsB w 0 y false = true → Ev (fun m => f_X12_asksMore m (d - 1) 269 S4 [(k : Int)]) (fun x S2 => (x = 0 ∧ ∃ n1 cs1, AkS A B Sc T refs n1 cs1 (k + 1) S2 ∧ S2.1 545 k = (cs.length : Int) ∧ FC (akP k) S S2 ∧ res = some (n1, cs1) ∧ cs1.length ≤ 219900) ∨ (x = 1 ∧ Ev (fun m => f_X12_asksWhole m d 36 S2 [M]) Q)) := by
                  intro hh
                  rw [hh, if_pos rfl, List.append_nil] at r4
                  exact p269 _ y n2 _ S4 a4 fq4 f4 (by omega) hn2 hn2P r4
                have p242 : w ≠ 12 ∨ 0 < y → Ev (fun m => f_X12_asksMore m (d - 1) 242 S4 [(k : Int), (w : Int)]) (fun x S2 => (x = 0 ∧ ∃ n1 cs1, AkS A B Sc T refs n1 cs1 (k + 1) S2 ∧ S2.1 545 k = (cs.length : Int) ∧ FC (akP k) S S2 ∧ res = some (n1, cs1) ∧ cs1.length ≤ 219900) ∨ (x = 1 ∧ Ev (fun m => f_X12_asksWhole m d 36 S2 [M]) Q)) := by
                  intro h12
                  refine ev_up (fun n => e_X12_asksMore_242) ?_
                  unfold b_X12_asksMore_242
                  refine ev_gg (by first | omega | (constructor <;> omega)) ?_
                  refine ev_ite (fun z => ?_) (fun z => ?_)
                  · refine fin ?_
                    unfold hsB hdB
                    by_cases q : w < 12
                    · rw [if_pos q]
                    · rw [if_neg q, if_neg c15, if_pos (show w = 12 by omega), decide_eq_true (by omega)]
                  · have w13 : w = 13 := by omega
                    have e13 : hsB w 0 y false = decide (y = 1) := by
                      unfold hsB hdB
                      rw [if_neg (by omega), if_neg c15, if_neg (by omega), if_pos w13]
                    refine ev_gg (by first | omega | (constructor <;> omega)) ?_
                    refine ev_gv ?_
                    rw [Int.toNat_natCast, fq4.2.1.2]
                    refine ev_gg (by first | omega | (constructor <;> omega)) ?_
                    refine ev_ite (fun q => ?_) (fun q => ?_)
                    · exact fin (by rw [e13, decide_eq_true q])
                    · refine ev_gv ?_
                      rw [fq4.1.1.2]
                      refine ev_gg (by first | omega | (constructor <;> omega)) ?_
                      exact cpl (by rw [e13, decide_eq_false q])
                refine ev_gg (by first | omega | (constructor <;> omega)) ?_
                refine ev_ite (fun z => ?_) (fun z => ?_)
                · exact p242 (Or.inl (by omega))
                · have w12 : w = 12 := by omega
                  have e12 : hsB w 0 y false = decide (0 < y) := by
                    unfold hsB hdB
                    rw [if_neg (by omega), if_neg c15, if_pos w12]
                  refine ev_gv ?_
                  rw [fq4.2.1.2]
                  refine ev_gg (by first | omega | (constructor <;> omega)) ?_
                  refine ev_ite (fun q => ?_) (fun q => ?_)
                  · refine ev_gv ?_
                    rw [fq4.1.1.2]
                    exact cpl (by rw [e12, decide_eq_false (by omega)])
                  · exact p242 (Or.inr (by omega))
              · refine ev_gg (by decide) ?_
                refine ev_ite (fun z => absurd z (by decide)) (fun _ => ?_)
                exact ev_ret (Or.inr ⟨rfl, hQ⟩)
        have e0 : yes = 0 := hy (by omega)
        subst e0
        exact LP _ 0 0 n1 cs1 S1 (Nat.lt_succ_self _) (Nat.zero_le _) (by decide) a1 fq ff (by omega) hn1 hn1P el
    refine beg (p14 _ S (n + 1) cs refs 1 0 0 hA hF ?_)
    have r99 := rv_99 sS.1 lS by_
    exact W 15 1 0 (n + 1) cs S rfl (Nat.le_refl 1) (fun _ => rfl) hA hF fc_rf (by have e : (16 - 1) = 15 := rfl; rw [e]; omega) (by omega) (by omega) eR
end ASK
