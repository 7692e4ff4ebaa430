/-! THE REFERENCE's select -/
/-- what was met so far -/
def FmS (n : Nat) (L : List Nat) (S : GS) : Prop := S.1 500 36 = (L.length : Int) ∧ (∀ i, i < L.length → S.1 520 i = (L.getD i 0 : Int)) ∧ (∀ j, j < 101 → S.2.1 521 j = decide (j ∈ L)) ∧ FdL n L
abbrev mtP : Nat → Nat → Prop := fun c j => (c = 500 ∧ j = 36) ∨ c = 520 ∨ c = 521
abbrev seP : Nat → Nat → Prop := fun c j => mtP c j ∨ wdP c j ∨ wrP 0 c j
abbrev soP : Nat → Nat → Prop := fun c j => wdP c j ∨ wrP 0 c j
section SEL
variable {S : GS} {d K : Nat} {V : List ND} {l : List Int} {L : List Nat}
theorem fm_fr {P : Nat → Nat → Prop} {S S1 : GS} {n : Nat} (h : FmS n L S) (hf : FC P S S1) (h1 : ¬ P 500 36) (h2 : ∀ j, ¬ P 520 j) (h3 : ∀ j, ¬ P 521 j) : FmS n L S1 := ⟨(fc_i hf h1).trans h.1, fun i hi => (fc_i hf (h2 i)).trans (h.2.1 i hi), fun j hj => (fc_b hf (h3 j)).trans (h.2.2.1 j hj), h.2.2.2⟩
theorem q_meets {x : Int} {X n : Nat} (hx : x = (X : Int)) (hX : X < n) (hn : n ≤ 100) (h : FmS n L S) : Ev (fun m => f_X12_meets m d 0 S [x]) (fun _ S1 => FmS n (mtA L X) S1 ∧ FC mtP S S1) := by
  subst hx
  have ll := nodup_len n L h.2.2.2.1 h.2.2.2.2
  have nd := fdL_A h.2.2.2 hX
  refine ev_up (fun n => e_X12_meets_0) ?_
  unfold b_X12_meets_0
  refine ev_gg (by first | omega | (constructor <;> omega)) ?_
  refine ev_gv ?_
  rw [Int.toNat_natCast, h.2.2.1 X (by omega)]
  by_cases c : X ∈ L
  · rw [decide_eq_true c, show bi true = 1 from rfl]
    refine ev_gg (by decide) ?_
    refine ev_ite (fun _ => ?_) (fun z => by omega)
    refine ev_ret ⟨?_, fc_rf⟩
    unfold mtA
    rw [if_pos c]
    exact h
  · rw [decide_eq_false c, show bi false = 0 from rfl]
    have l2 := nodup_len n (mtA L X) nd.1 nd.2
    have eL : mtA L X = L ++ [X] := by unfold mtA; rw [if_neg c]
    rw [eL, List.length_append, List.length_singleton] at l2
    refine ev_gg (by decide) ?_
    refine ev_ite (fun z => by omega) (fun _ => ?_)
    refine ev_gv ?_
    refine ev_gv ?_
    rw [show (gB S 521 X (decide ((1 : Int) = 1))).1 500 36 = (L.length : Int) from h.1]
    refine ev_gg (by first | omega | (constructor <;> omega)) ?_
    refine ev_gv ?_
    refine ev_gv ?_
    rw [Int.toNat_natCast, gI_c (show (500 : Nat) ≠ 520 by decide), show (gB S 521 X (decide ((1 : Int) = 1))).1 500 36 = (L.length : Int) from h.1]
    refine ev_gv ?_
    refine ev_gv ?_
    refine ev_ret ⟨⟨?_, fun i hi => ?_, fun j hj => ?_, nd⟩, ?_⟩
    · rw [gI_a, eL, List.length_append, List.length_singleton]
      omega
    · rw [eL, List.length_append, List.length_singleton] at hi
      rw [gI_c (by decide), eL]
      by_cases e : i = L.length
      · subst e
        rw [gI_a]
        simp
      · rw [gI_k (by omega), show (gB S 521 X (decide ((1 : Int) = 1))).1 520 i = S.1 520 i from rfl, h.2.1 i (by omega), List.getD_eq_getElem?_getD, List.getD_eq_getElem?_getD, List.getElem?_append_left (by omega)]
    · rw [gI_b, gI_b, eL]
      by_cases e : j = X
      · subst e
        rw [gB_a]
        simp
      · rw [gB_k (by omega), h.2.2.1 j hj]
        simp [e]
    · exact fc_tr (fc_gB (Or.inr (Or.inr rfl))) (fc_tr (fc_gI (Or.inr (Or.inl rfl))) (fc_gI (Or.inl ⟨rfl, rfl⟩)))
theorem q_isSo {k i e : Int} {A E I T : Nat} (hd : 9 ≤ d) (hk : k = (K : Int)) (hK : K < 48) (hi : i = (I : Int)) (he : e = (T : Int)) (hL : LK S K V) (hv : SDC V) (hdp : ∀ r, dpS r V ≤ 12) (hI : I < V.length) (hl : PaS S l) (c30 : S.1 500 30 = (A : Int)) (c31 : S.1 500 31 = (E : Int)) (hE : E ≤ l.length) (hA : A + 1 ≤ T) (hT : T < E) (o1 : ptOK ((l.take T).drop (A + 1)) = true) (o2 : ptOK ((l.take E).drop (T + 1)) = true) : Ev (fun n => f_X12_isSo n d 0 S [k, i, e]) (fun x S1 => x = (if vLk V (I : Int) (une ((l.take T).drop (A + 1))) ≠ -1 ∧ une ((l.take E).drop (T + 1)) = wrF 12 0 0 (sg V (vLk V (I : Int) (une ((l.take T).drop (A + 1)))).toNat) then 1 else 0) ∧ FC soP S S1) := by
  subst hk hi he
  have l9 := hl.2.1
  have hz := pz_l hv.1.2
  have nr := hL.2.2.2 _ (nd_mem hI)
  have kr : 0 ≤ nk V I ∧ nk V I ≤ 5 := ⟨nr.1, nr.2.1⟩
  refine ev_up (fun n => e_X12_isSo_0) ?_
  unfold b_X12_isSo_0
  refine ev_gg (by first | omega | (constructor <;> omega)) ?_
  refine ev_gcr (q_kindL (d := d - 1) (K := K) (I := I) (by omega) rfl hK rfl hL hI) ?_
  refine ev_gg (by first | omega | (constructor <;> omega)) ?_
  rw [vLk_n hI]
  refine ev_ite (fun k5 => ?_) (fun k5 => ?_)
  · rw [if_pos k5]
    refine ev_gv ?_
    rw [c30]
    refine ev_gv ?_
    refine ev_gc (q_wordOf (d := d - 1) (A := A + 1) (E := T) (by omega) rfl hl (by omega) (by omega) o1) (fun _ S1 q => ?_)
    obtain ⟨w1, f1⟩ := q
    have hL1 := lk_fr hL f1 (fun j _ _ => by omega) (by omega)
    refine ev_gcr (q_childByWord (d := d - 1) (K := K) (G := I) (by omega) rfl hK rfl hL1 hv.1.1.1 hv.1.2 hI w1) ?_
    have mem := fdK_mem (V := V) (key := une ((l.take T).drop (A + 1))) (kids V I)
    generalize fdK V (une ((l.take T).drop (A + 1))) (kids V I) = x at mem ⊢
    rcases mem with e | ⟨j, hj, rfl, _⟩
    · subst e
      refine ev_gg (by decide) ?_
      refine ev_ite (fun z => by omega) (fun _ => ?_)
      refine ev_ret ⟨by rw [if_neg (fun z => z.1 rfl)], fc_mono f1 (fun c j z => Or.inl z)⟩
    · have kj := kid_in3 hv.1.1.1 hz hI hj
      have lv := hL.2.1
      refine ev_gg (by first | omega | (constructor <;> omega)) ?_
      refine ev_ite (fun _ => ?_) (fun z => by omega)
      refine ev_gv ?_
      refine ev_gv ?_
      rw [fc_i f1 (by omega), c31]
      refine ev_gc (q_wordOf (d := d - 1) (A := T + 1) (E := E) (by omega) rfl (pa_fr hl f1 (by omega) (fun j => by omega)) hE (by omega) o2) (fun _ S2 q => ?_)
      obtain ⟨w2, f2⟩ := q
      have hL2 := lk_fr hL1 f2 (fun j _ _ => by omega) (by omega)
      refine ev_gc (q_writes (d := d - 1) (t := 0) (K := K) (I := j) (by omega) rfl (by decide) rfl hK rfl (by decide) hL2 hv kj.2.1 (dp_sg V.length V (Nat.le_refl _) hv.1 hdp j kj.2.1)) (fun _ S3 q => ?_)
      obtain ⟨o3, f3⟩ := q
      have f03 : FC soP S S3 := fc_tr (fc_mono f1 (fun c j z => Or.inl z)) (fc_tr (fc_mono f2 (fun c j z => Or.inl z)) (fc_mono f3 (fun c j z => Or.inr z)))
      have w3 : WD S3 (une ((l.take E).drop (T + 1))) := wd_fr w2 f3 (by omega) (fun j => by omega)
      rw [Int.toNat_natCast]
      generalize hW : une ((l.take E).drop (T + 1)) = W at w3
      generalize hU : wrF 12 0 0 (sg V j) = U at o3
      have nj : ((j : Nat) : Int) ≠ -1 := by omega
      have en : (if ((j : Nat) : Int) ≠ -1 ∧ W = U then (1 : Int) else 0) = if W = U then 1 else 0 := by
        by_cases q : W = U
        · rw [if_pos q, if_pos ⟨nj, q⟩]
        · rw [if_neg q, if_neg (fun z => q z.2)]
      rw [en]
      refine ev_gg (by decide) ?_
      refine ev_gv ?_
      refine ev_gv ?_
      rw [show (0 : Int).toNat = 0 from rfl, o3.1, w3.1]
      have lu := o3.2.1
      have lw9 := w3.2.1
      refine ev_gg (by first | omega | (constructor <;> omega)) ?_
      refine ev_gg (by first | omega | (constructor <;> omega)) ?_
      have no : W ≠ U → ∀ (u : Nat), u ≤ 1000 → Ev (fun n => f_X12_isSo n d 82 S3 [0, (u : Int)]) (fun x S1 => x = (if W = U then 1 else 0) ∧ FC soP S S1) := by
        intro ne u hu
        refine ev_up (fun n => e_X12_isSo_82) ?_
        unfold b_X12_isSo_82
        refine ev_gv ?_
        rw [w3.1]
        refine ev_gg (by first | omega | (constructor <;> omega)) ?_
        refine ev_gg (by first | omega | (constructor <;> omega)) ?_
        refine ev_ite (fun _ => ?_) (fun _ => ?_)
        · refine ev_gg (by decide) ?_
          exact ev_ret ⟨by rw [if_neg ne], f03⟩
        · refine ev_gg (by decide) ?_
          refine ev_ite (fun _ => ?_) (fun z => by omega)
          refine ev_gg (by decide) ?_
          exact ev_ret ⟨by rw [if_neg ne], f03⟩
      refine ev_ite (fun z => ?_) (fun z => ?_)
      · exact no (fun e => z (by rw [e])) 0 (by decide)
      · have le : U.length = W.length := by omega
        have lp : ∀ (t u : Nat), u + t = W.length → (∀ i, i < u → U.getD i 0 = W.getD i 0) → Ev (fun n => f_X12_isSo n d 82 S3 [1, (u : Int)]) (fun x S1 => x = (if W = U then 1 else 0) ∧ FC soP S S1) := by
          intro t
          induction t with
          | zero =>
            intro u hu heq
            have eWU : W = U := ext_gD le.symm (fun i hi => (heq i (by omega)).symm)
            refine ev_up (fun n => e_X12_isSo_82) ?_
            unfold b_X12_isSo_82
            refine ev_gv ?_
            rw [w3.1]
            refine ev_gg (by first | omega | (constructor <;> omega)) ?_
            refine ev_gg (by first | omega | (constructor <;> omega)) ?_
            refine ev_ite (fun _ => ?_) (fun z => by omega)
            refine ev_gg (by decide) ?_
            exact ev_ret ⟨by rw [if_pos eWU], f03⟩
          | succ t ih =>
            intro u hu heq
            have cu := o3.2.2.1 u (by omega)
            rw [Nat.mul_zero, Nat.zero_add] at cu
            have ur := o3.2.2.2 _ (getD_in (q := U) (t := u) (by omega))
            have wr := w3.2.2.2 _ (getD_in (q := W) (t := u) (by omega))
            refine ev_up (fun n => e_X12_isSo_82) ?_
            unfold b_X12_isSo_82
            refine ev_gv ?_
            rw [w3.1]
            refine ev_gg (by first | omega | (constructor <;> omega)) ?_
            refine ev_gg (by first | omega | (constructor <;> omega)) ?_
            refine ev_ite (fun z => by omega) (fun _ => ?_)
            refine ev_gg (by decide) ?_
            refine ev_ite (fun z => by omega) (fun _ => ?_)
            refine ev_gg (by first | omega | (constructor <;> omega)) ?_
            refine ev_gv ?_
            rw [Int.toNat_natCast, cu]
            refine ev_gg (by first | omega | (constructor <;> omega)) ?_
            refine ev_gv ?_
            rw [w3.2.2.1 u (by omega)]
            refine ev_gg (by first | omega | (constructor <;> omega)) ?_
            refine ev_gg (by first | omega | (constructor <;> omega)) ?_
            refine ev_ite (fun q => ?_) (fun q => ?_)
            · refine ev_gv ?_
              rw [show (u : Int) + 1 = ((u + 1 : Nat) : Int) by omega]
              exact no (fun e => q (by rw [e])) (u + 1) (by omega)
            · refine ev_gv ?_
              rw [show (u : Int) + 1 = ((u + 1 : Nat) : Int) by omega]
              refine ih (u + 1) (by omega) (fun i hi => ?_)
              by_cases e : i = u
              · rw [e]; omega
              · exact heq i (by omega)
        exact lp W.length 0 (by omega) (fun i hi => absurd hi (Nat.not_lt_zero i))
  · rw [if_neg k5]
    exact ev_ret ⟨by rw [if_neg (fun z => z.1 rfl)], fc_rf⟩
theorem q_selectsBy {k i : Int} {A E g : Nat} (hd : 10 ≤ d) (hk : k = (K : Int)) (hK : K < 48) (hi : i = (g : Int)) (hL : LK S K V) (hv : SDC V) (hdp : ∀ r, dpS r V ≤ 12) (hg : g < V.length) (hl : PaS S l) (c30 : S.1 500 30 = (A : Int)) (c31 : S.1 500 31 = (E : Int)) (hA : A ≤ E) (hE : E ≤ l.length) (ho : ptOK ((l.take E).drop A) = true) (hm : FmS V.length L S) : Ev (fun n => f_X12_selectsBy n d 0 S [k, i]) (fun _ S1 => FmS V.length ((stC V (une ((l.take E).drop A)) g).foldl mtA L) S1 ∧ FC seP S S1) := by
  subst hk hi
  have l9 := hl.2.1
  have hw := hv.1.1.1
  have hz := pz_l hv.1.2
  have lV := hL.2.1
  have wg := hw.1 g hg
  have zg := hz g
  have kl := kids_le hw hz (g := g)
  have lR : ((l.take E).drop A).length = E - A := by rw [List.length_drop, List.length_take]; omega
  have aR : ∀ j, j < E - A → S.1 518 (A + j) = ((l.take E).drop A).getD j 0 := fun j hj => by
    rw [hl.2.2.1 (A + j) (by omega), List.getD_eq_getElem?_getD, List.getD_eq_getElem?_getD, List.getElem?_drop, List.getElem?_take, if_pos (by omega)]
  have rR : ∀ j, 0 ≤ ((l.take E).drop A).getD j 0 ∧ ((l.take E).drop A).getD j 0 < 256 := fun j => by
    by_cases c : j < ((l.take E).drop A).length
    · exact hl.2.2.2 _ (List.mem_of_mem_take (List.mem_of_mem_drop (getD_in c)))
    · rw [List.getD_eq_getElem?_getD, List.getElem?_eq_none (by omega)]; decide
  have tk : ∀ t, A + t ≤ E → (((l.take E).drop A).take t).drop 1 = (l.take (A + t)).drop (A + 1) := fun t ht => by
    rw [List.drop_take, List.drop_drop, List.drop_take, List.take_take, List.drop_take]
    congr 1
    omega
  have dr : ∀ t, ((l.take E).drop A).drop t = (l.take E).drop (A + t) := fun t => by rw [List.drop_drop]
  have keep : ∀ S1, FC seP S S1 → LK S1 K V ∧ PaS S1 l ∧ S1.1 500 30 = (A : Int) ∧ S1.1 500 31 = (E : Int) ∧ ∀ j, j < E - A → S1.1 518 (A + j) = ((l.take E).drop A).getD j 0 := fun S1 hf => ⟨lk_fr hL hf (fun j _ _ => by omega) (by omega), pa_fr hl hf (by omega) (fun j => by omega), by rw [fc_i hf (by omega)]; exact c30, by rw [fc_i hf (by omega)]; exact c31, fun j hj => by rw [fc_i hf (by omega)]; exact aR j hj⟩
  generalize hRR : (l.take E).drop A = R at *
  have s18 := sx_18
  have s19 := sx_19
  unfold stC
  rw [s18, s19]
  have p48 : ∀ (t a : Nat) (L1 : List Nat) (S1 : GS), a + t = g + nz V g → FmS V.length L1 S1 → FC seP S S1 → Ev (fun n => f_X12_selectsBy n d 48 S1 [(K : Int), (g : Int), (a : Int)]) (fun _ S2 => FmS V.length ((List.range' a t).foldl mtA L1) S2 ∧ FC seP S S2) := by
    intro t
    induction t with
    | zero =>
      intro a L1 S1 ha h1 hf
      refine ev_up (fun n => e_X12_selectsBy_48) ?_
      unfold b_X12_selectsBy_48
      refine ev_gg (by first | omega | (constructor <;> omega)) ?_
      refine ev_gcr (q_endL (d := d - 1) (K := K) (I := g) (by omega) rfl hK rfl (keep S1 hf).1 hg) ?_
      refine ev_gg (by first | omega | (constructor <;> omega)) ?_
      refine ev_gg (by first | omega | (constructor <;> omega)) ?_
      refine ev_ite (fun _ => ?_) (fun z => by omega)
      exact ev_ret ⟨h1, hf⟩
    | succ t ih =>
      intro a L1 S1 ha h1 hf
      refine ev_up (fun n => e_X12_selectsBy_48) ?_
      unfold b_X12_selectsBy_48
      refine ev_gg (by first | omega | (constructor <;> omega)) ?_
      refine ev_gcr (q_endL (d := d - 1) (K := K) (I := g) (by omega) rfl hK rfl (keep S1 hf).1 hg) ?_
      refine ev_gg (by first | omega | (constructor <;> omega)) ?_
      refine ev_gg (by first | omega | (constructor <;> omega)) ?_
      refine ev_ite (fun z => by omega) (fun _ => ?_)
      refine ev_gc (q_meets (d := d - 1) (X := a) rfl (by omega) lV h1) (fun _ S2 q => ?_)
      refine ev_gv ?_
      rw [show (a : Int) + 1 = ((a + 1 : Nat) : Int) by omega]
      exact ih (a + 1) _ S2 (by omega) q.1 (fc_tr hf (fc_mono q.2 (fun c j z => Or.inl z)))
  have p196 : ∀ (b : Int) (T : Nat) (P : Nat → Bool), (b = 0 ∨ b = 1) → A ≤ T → T ≤ E → (b = 1 → ∀ c, P c = true) → (b = 0 → E ≤ T → ∀ c, P c = false) → (b = 0 → T < E → A + 1 ≤ T ∧ ptOK ((l.take T).drop (A + 1)) = true ∧ ptOK ((l.take E).drop (T + 1)) = true ∧ ∀ c, P c = true ↔ (vLk V (c : Int) (une ((l.take T).drop (A + 1))) ≠ -1 ∧ une ((l.take E).drop (T + 1)) = wrF 12 0 0 (sg V (vLk V (c : Int) (une ((l.take T).drop (A + 1)))).toNat))) → ∀ (Ks : List Nat) (a u : Nat) (L1 : List Nat) (S1 : GS), ks V a (g + nz V g) = Ks → g < a → a ≤ g + nz V g → u + Ks.length = (kids V g).length → FmS V.length L1 S1 → FC seP S S1 → Ev (fun n => f_X12_selectsBy n d 196 S1 [(K : Int), (g : Int), b, (T : Int), (a : Int), (u : Int)]) (fun _ S2 => FmS V.length ((Ks.filter P).foldl mtA L1) S2 ∧ FC seP S S2) := by
    intro b T P hb hAT hTE hP1 hP0 hPs Ks
    induction Ks with
    | nil =>
      intro a u L1 S1 hk ha ha2 hu h1 hf
      rw [List.length_nil] at hu
      refine ev_up (fun n => e_X12_selectsBy_196) ?_
      unfold b_X12_selectsBy_196
      refine ev_gg (by first | omega | (constructor <;> omega)) ?_
      refine ev_gcr (q_manyL (d := d - 1) (K := K) (I := g) (by omega) rfl hK rfl (keep S1 hf).1 hg) ?_
      refine ev_gg (by first | omega | (constructor <;> omega)) ?_
      refine ev_gg (by first | omega | (constructor <;> omega)) ?_
      refine ev_ite (fun _ => ?_) (fun z => by omega)
      exact ev_ret ⟨h1, hf⟩
    | cons c Ks ih =>
      intro a u L1 S1 hk ha ha2 hu h1 hf
      rw [List.length_cons] at hu
      have ca : a < g + nz V g := by
        by_cases q : a < g + nz V g
        · exact q
        · rw [ks_nil (by omega)] at hk; cases hk
      rw [ks_cons hz ca] at hk
      obtain ⟨rfl, hk2⟩ := List.cons.inj hk
      have w2 := hw.2.1 g a ha ca
      have za := hz a
      have al : a < V.length := by omega
      have skip : ∀ S2, FmS V.length L1 S2 → FC seP S S2 → P a = false → Ev (fun n => gc (f_X12_endOf n (d - 1) 0 S2 [(K : Int), (a : Int)]) fun x S_3 => gv ((u : Int) + 1) fun x2 => f_X12_selectsBy n d 196 S_3 [(K : Int), (g : Int), b, (T : Int), x, x2]) (fun _ S2 => FmS V.length (((a :: Ks).filter P).foldl mtA L1) S2 ∧ FC seP S S2) := by
        intro S2 h2 f2 pf
        refine ev_gcr (q_endL (d := d - 1) (K := K) (I := a) (by omega) rfl hK rfl (keep S2 f2).1 al) ?_
        refine ev_gv ?_
        rw [show (u : Int) + 1 = ((u + 1 : Nat) : Int) by omega, List.filter_cons, pf, if_neg (by decide)]
        exact ih (a + nz V a) (u + 1) L1 S2 hk2 (by omega) w2 (by omega) h2 f2
      have p234 : ∀ S2, FmS V.length L1 S2 → FC seP S S2 → P a = true → Ev (fun n => f_X12_selectsBy n d 234 S2 [(K : Int), (g : Int), b, (T : Int), (a : Int), (u : Int)]) (fun _ S2 => FmS V.length (((a :: Ks).filter P).foldl mtA L1) S2 ∧ FC seP S S2) := by
        intro S2 h2 f2 pf
        refine ev_up (fun n => e_X12_selectsBy_234) ?_
        unfold b_X12_selectsBy_234
        refine ev_gg (by first | omega | (constructor <;> omega)) ?_
        refine ev_gc (q_meets (d := d - 1) (X := a) rfl al lV h2) (fun _ S3 q => ?_)
        have f3 := fc_tr f2 (fc_mono q.2 (fun c j z => Or.inl z))
        refine ev_gcr (q_endL (d := d - 1) (K := K) (I := a) (by omega) rfl hK rfl (keep S3 f3).1 al) ?_
        refine ev_gv ?_
        rw [show (u : Int) + 1 = ((u + 1 : Nat) : Int) by omega, List.filter_cons, pf, if_pos rfl, List.foldl_cons]
        exact ih (a + nz V a) (u + 1) _ S3 hk2 (by omega) w2 (by omega) q.1 f3
      have kp := keep S1 hf
      refine ev_up (fun n => e_X12_selectsBy_196) ?_
      unfold b_X12_selectsBy_196
      refine ev_gg (by first | omega | (constructor <;> omega)) ?_
      refine ev_gcr (q_manyL (d := d - 1) (K := K) (I := g) (by omega) rfl hK rfl kp.1 hg) ?_
      refine ev_gg (by first | omega | (constructor <;> omega)) ?_
      refine ev_gg (by first | omega | (constructor <;> omega)) ?_
      refine ev_ite (fun z => by omega) (fun _ => ?_)
      refine ev_gg (by first | omega | (constructor <;> omega)) ?_
      refine ev_ite (fun z => ?_) (fun z => ?_)
      · exact p234 S1 h1 hf (hP1 (by omega) a)
      · have b0 : b = 0 := by omega
        refine ev_gv ?_
        rw [kp.2.2.2.1]
        refine ev_gg (by first | omega | (constructor <;> omega)) ?_
        refine ev_gg (by first | omega | (constructor <;> omega)) ?_
        refine ev_ite (fun z1 => ?_) (fun z1 => ?_)
        · exact skip S1 h1 hf (hP0 b0 (by omega) a)
        · obtain ⟨s1, s2, s3, s4⟩ := hPs b0 (by omega)
          refine ev_gc (q_isSo (d := d - 1) (K := K) (I := a) (T := T) (A := A) (E := E) (by omega) rfl hK rfl rfl kp.1 hv hdp al kp.2.1 kp.2.2.1 kp.2.2.2.1 hE s1 (by omega) s2 s3) (fun x S2 q => ?_)
          obtain ⟨x2, f2⟩ := q
          have f2' : FC seP S1 S2 := fc_mono f2 (fun c j z => Or.inr z)
          have m2 := fm_fr h1 f2 (by omega) (fun j => by omega) (fun j => by omega)
          by_cases y : vLk V (a : Int) (une ((l.take T).drop (A + 1))) ≠ -1 ∧ une ((l.take E).drop (T + 1)) = wrF 12 0 0 (sg V (vLk V (a : Int) (une ((l.take T).drop (A + 1)))).toNat)
          · rw [if_pos y] at x2
            subst x2
            refine ev_gg (by decide) ?_
            refine ev_ite (fun z => by omega) (fun _ => ?_)
            exact p234 S2 m2 (fc_tr hf f2') ((s4 a).mpr y)
          · rw [if_neg y] at x2
            subst x2
            refine ev_gg (by decide) ?_
            refine ev_ite (fun _ => ?_) (fun z => by omega)
            exact skip S2 m2 (fc_tr hf f2') (by cases hp : P a with | true => exact absurd ((s4 a).mp hp) y | false => rfl)
  have p161 : ∀ (b : Int) (P : Nat → Bool) (L2 : List Nat), (b = 0 ∨ b = 1) → (b = 1 → ∀ c, P c = true) → (b = 0 → hdI R = 63 ∧ ∀ c, P c = mchS V (une R) c) → (kids V g).filter P = L2 → Ev (fun n => f_X12_selectsBy n d 161 S [(K : Int), (g : Int), b, (A : Int)]) (fun _ S2 => FmS V.length (L2.foldl mtA L) S2 ∧ FC seP S S2) := by
    intro b P L2 hb hP1 hP0 hL2
    subst hL2
    have t6l := t6_le R
    have h196 : Ev (fun n => f_X12_selectsBy n d 196 S [(K : Int), (g : Int), b, ((A + t6 R : Nat) : Int), ((g + 1 : Nat) : Int), ((0 : Nat) : Int)]) (fun _ S2 => FmS V.length (((kids V g).filter P).foldl mtA L) S2 ∧ FC seP S S2) := by
      refine p196 b (A + t6 R) P hb (by omega) (by omega) hP1 (fun b0 hle c => ?_) (fun b0 hlt => ?_) (kids V g) (g + 1) 0 L S rfl (by omega) (by omega) (by omega) hm fc_rf
      · rw [(hP0 b0).2 c, mch_raw ho (hP0 b0).1, decide_eq_false (by omega), Bool.false_and]
      · have h63 := (hP0 b0).1
        have t1 : 1 ≤ t6 R := by
          cases hR2 : R with
          | nil => rw [hR2] at h63; cases h63
          | cons y r =>
            rw [hR2] at h63
            have e : y = 63 := h63
            subst e
            unfold t6
            rw [if_neg (by decide)]
            omega
        have c6 : t6 R < R.length := by omega
        have a6 := t6_at R c6
        refine ⟨by omega, ?_, ?_, fun c => ?_⟩
        · rw [← tk (t6 R) (by omega)]
          exact ptOK_drop (ptOK_take R _ ho (fun _ => by rw [a6]; decide))
        · rw [show A + t6 R + 1 = A + (t6 R + 1) by omega, ← dr]
          exact ptOK_drop ho
        · rw [(hP0 b0).2 c, mch_raw ho h63, decide_eq_true c6, Bool.true_and, Bool.and_eq_true, decide_eq_true_eq, decide_eq_true_eq, tk (t6 R) (by omega), dr, show A + (t6 R + 1) = A + t6 R + 1 by omega]
    have lp : ∀ (w : List Int) (u : Nat), R.drop u = w → u ≤ R.length → t6 R = u + t6 w → Ev (fun n => f_X12_selectsBy n d 161 S [(K : Int), (g : Int), b, ((A + u : Nat) : Int)]) (fun _ S2 => FmS V.length (((kids V g).filter P).foldl mtA L) S2 ∧ FC seP S S2) := by
      intro w
      induction w with
      | nil =>
        intro u hu hul ht
        have := drop_nl hu
        have t0 : t6 [] = 0 := rfl
        refine ev_up (fun n => e_X12_selectsBy_161) ?_
        unfold b_X12_selectsBy_161
        refine ev_gv ?_
        rw [c31]
        refine ev_gg (by first | omega | (constructor <;> omega)) ?_
        refine ev_gg (by first | omega | (constructor <;> omega)) ?_
        refine ev_ite (fun _ => ?_) (fun z => by omega)
        refine ev_gv ?_
        rw [show A + u = A + t6 R by omega]
        exact h196
      | cons y w ih =>
        intro u hu hul ht
        obtain ⟨lu, g1, r1⟩ := drop_hd hu
        have yr := rR u
        have ty : t6 (y :: w) = if y = 61 then 0 else t6 w + 1 := rfl
        refine ev_up (fun n => e_X12_selectsBy_161) ?_
        unfold b_X12_selectsBy_161
        refine ev_gv ?_
        rw [c31]
        refine ev_gg (by first | omega | (constructor <;> omega)) ?_
        refine ev_gg (by first | omega | (constructor <;> omega)) ?_
        refine ev_ite (fun z => by omega) (fun _ => ?_)
        refine ev_gg (by first | omega | (constructor <;> omega)) ?_
        refine ev_gv ?_
        rw [Int.toNat_natCast, aR u (by omega), g1]
        rw [g1] at yr
        refine ev_gg (by first | omega | (constructor <;> omega)) ?_
        refine ev_ite (fun z => ?_) (fun z => ?_)
        · refine ev_gv ?_
          rw [if_pos z] at ty
          rw [show A + u = A + t6 R by omega]
          exact h196
        · refine ev_gv ?_
          rw [if_neg z] at ty
          rw [show ((A + u : Nat) : Int) + 1 = ((A + (u + 1) : Nat) : Int) by omega]
          exact ih (u + 1) r1 (by omega) (by omega)
    exact lp R 0 rfl (Nat.zero_le _) (by omega)
  have p121 : Ev (fun n => f_X12_selectsBy n d 121 S [(K : Int), (g : Int)]) (fun _ S2 => FmS V.length ((if stpN V (une R) g = -1 then [] else [(stpN V (une R) g).toNat]).foldl mtA L) S2 ∧ FC seP S S2) := by
    refine ev_up (fun n => e_X12_selectsBy_121) ?_
    unfold b_X12_selectsBy_121
    refine ev_gv ?_
    rw [c30]
    refine ev_gv ?_
    rw [c31]
    refine ev_gg (by first | omega | (constructor <;> omega)) ?_
    refine ev_gc (q_wordOf (d := d - 1) (A := A) (E := E) rfl rfl hl hE (by omega) (by rw [hRR]; exact ho)) (fun _ S1 q => ?_)
    obtain ⟨w1, f1⟩ := q
    rw [hRR] at w1
    have f1' : FC seP S S1 := fc_mono f1 (fun c j z => Or.inr (Or.inl z))
    refine ev_gcr (q_stepped (d := d - 1) (K := K) (G := g) (by omega) rfl hK rfl (Or.inr rfl) (keep S1 f1').1 hw hv.1.2 hg w1) ?_
    rw [if_neg (by decide)]
    have inS : stpN V (une R) g = -1 ∨ ∃ j : Nat, j < V.length ∧ stpN V (une R) g = (j : Int) := by
      by_cases c : stpN V (une R) g = -1
      · exact Or.inl c
      · right
        have : (stpN V (une R) g).toNat < V.length ∧ 0 ≤ stpN V (une R) g := by
          unfold stpN at c ⊢
          by_cases k4 : nk V g = 4
          · rw [if_pos k4] at c ⊢
            rcases atK_mem (kids V g) (plW V g (une R)) with e | ⟨j, hj, e⟩
            · exact absurd e c
            · have := (kid_in3 hw hz hg hj).2.1
              rw [e]
              omega
          · rw [if_neg k4, vLk_n hg] at c ⊢
            by_cases k5 : nk V g = 5
            · rw [if_pos k5] at c ⊢
              rcases fdK_mem (V := V) (key := une R) (kids V g) with e | ⟨j, hj, e, _⟩
              · exact absurd e c
              · have := (kid_in3 hw hz hg hj).2.1
                rw [e]
                omega
            · rw [if_neg k5] at c; exact absurd rfl c
        exact ⟨(stpN V (une R) g).toNat, this.1, by omega⟩
    have m1 := fm_fr hm f1 (by omega) (fun j => by omega) (fun j => by omega)
    rcases inS with e | ⟨j, jl, e⟩
    · rw [e]
      refine ev_gg (by decide) ?_
      refine ev_ite (fun _ => ?_) (fun z => by omega)
      rw [if_pos rfl]
      exact ev_ret ⟨m1, f1'⟩
    · rw [e]
      refine ev_gg (by first | omega | (constructor <;> omega)) ?_
      refine ev_ite (fun z => by omega) (fun _ => ?_)
      refine ev_gc (q_meets (d := d - 1) (X := j) rfl jl lV m1) (fun _ S2 q => ?_)
      refine ev_ret ⟨?_, fc_tr f1' (fc_mono q.2 (fun c j z => Or.inl z))⟩
      rw [if_neg (by omega), Int.toNat_natCast]
      exact q.1
  have p96 : ∀ s0 : Int, s0 = (if R = [42] then 1 else 0) → ¬ R = [42, 42] → Ev (fun n => f_X12_selectsBy n d 96 S [(K : Int), (g : Int), ((E - A : Nat) : Int), s0]) (fun _ S2 => FmS V.length ((if une R = [42, 42] then List.range' g (nz V g) else if une R = [42] then kids V g else if hdI (une R) = 63 then (kids V g).filter (mchS V (une R)) else if stpN V (une R) g = -1 then [] else [(stpN V (une R) g).toNat]).foldl mtA L) S2 ∧ FC seP S S2) := by
    intro s0 hs n2
    rw [if_neg (fun z => n2 (une_4242.mp z))]
    refine ev_up (fun n => e_X12_selectsBy_96) ?_
    unfold b_X12_selectsBy_96
    refine ev_gg (by rw [hs]; split <;> decide) ?_
    by_cases c1 : R = [42]
    · rw [if_pos c1] at hs
      subst hs
      rw [if_pos (une_42.mpr c1)]
      refine ev_ite (fun _ => ?_) (fun z => by omega)
      refine ev_gv ?_
      rw [c30]
      exact p161 1 (fun _ => true) _ (Or.inr rfl) (fun _ _ => rfl) (fun z => absurd z (by decide)) (List.filter_eq_self.mpr (fun _ _ => rfl))
    · rw [if_neg c1] at hs
      subst hs
      rw [if_neg (fun z => c1 (une_42.mp z))]
      refine ev_ite (fun z => by omega) (fun _ => ?_)
      refine ev_gg (by first | omega | (constructor <;> omega)) ?_
      by_cases c0 : R = []
      · have l0 : E - A = 0 := by rw [← lR, c0]; rfl
        rw [l0]
        refine ev_ite (fun _ => ?_) (fun z => by omega)
        rw [if_neg (by rw [c0]; decide)]
        exact p121
      · have l0 : 1 ≤ R.length := by
          cases hR2 : R with
          | nil => exact absurd hR2 c0
          | cons y r => rw [List.length_cons]; omega
        refine ev_ite (fun z => by omega) (fun _ => ?_)
        refine ev_gv ?_
        rw [c30]
        refine ev_gg (by first | omega | (constructor <;> omega)) ?_
        refine ev_gv ?_
        rw [Int.toNat_natCast, show S.1 518 A = R.getD 0 0 from aR 0 (by omega)]
        have e0 : hdI R = R.getD 0 0 := by
          cases hR2 : R with
          | nil => exact absurd hR2 c0
          | cons y r => rfl
        have r0 := rR 0
        rw [← e0] at r0 ⊢
        refine ev_gg (by first | omega | (constructor <;> omega)) ?_
        refine ev_ite (fun z => ?_) (fun z => ?_)
        · refine ev_gv ?_
          rw [if_pos ((une_hd (by decide)).mpr z)]
          exact p161 0 (mchS V (une R)) _ (Or.inl rfl) (fun y => absurd y (by decide)) (fun _ => ⟨z, fun _ => rfl⟩) rfl
        · rw [if_neg (fun y => z ((une_hd (by decide)).mp y))]
          exact p121
  have p72 : ¬ R = [42, 42] → Ev (fun n => f_X12_selectsBy n d 72 S [(K : Int), (g : Int), ((E - A : Nat) : Int)]) (fun _ S2 => FmS V.length ((if une R = [42, 42] then List.range' g (nz V g) else if une R = [42] then kids V g else if hdI (une R) = 63 then (kids V g).filter (mchS V (une R)) else if stpN V (une R) g = -1 then [] else [(stpN V (une R) g).toNat]).foldl mtA L) S2 ∧ FC seP S S2) := by
    intro n2
    refine ev_up (fun n => e_X12_selectsBy_72) ?_
    unfold b_X12_selectsBy_72
    refine ev_gg (by first | omega | (constructor <;> omega)) ?_
    refine ev_ite (fun z => ?_) (fun z => ?_)
    · exact p96 0 (by rw [if_neg (fun e => z (by rw [← lR, e]; rfl))]) n2
    · refine ev_gv ?_
      rw [c30]
      refine ev_gg (by first | omega | (constructor <;> omega)) ?_
      refine ev_gv ?_
      rw [Int.toNat_natCast, show S.1 518 A = R.getD 0 0 from aR 0 (by omega)]
      have r0 := rR 0
      have eR : R = [R.getD 0 0] := by
        match R, lR with
        | [], h => exact absurd h (by rw [List.length_nil]; omega)
        | [y], _ => rfl
        | y :: y2 :: r, h => exact absurd h (by rw [List.length_cons, List.length_cons]; omega)
      refine ev_gg (by first | omega | (constructor <;> omega)) ?_
      refine ev_ite (fun q => ?_) (fun q => ?_)
      · exact p96 0 (by rw [if_neg (fun e => q (by rw [e]; rfl))]) n2
      · exact p96 1 (by rw [if_pos (by rw [eR, show R.getD 0 0 = 42 by omega])]) n2
  refine ev_up (fun n => e_X12_selectsBy_0) ?_
  unfold b_X12_selectsBy_0
  refine ev_gv ?_
  rw [c31]
  refine ev_gv ?_
  rw [c30]
  refine ev_gv ?_
  rw [show (E : Int) - (A : Int) = ((E - A : Nat) : Int) by omega]
  refine ev_gg (by first | omega | (constructor <;> omega)) ?_
  refine ev_ite (fun z => ?_) (fun z => ?_)
  · exact p72 (fun e => z (by rw [← lR, e]; rfl))
  · refine ev_gv ?_
    refine ev_gg (by first | omega | (constructor <;> omega)) ?_
    refine ev_gv ?_
    rw [Int.toNat_natCast, show S.1 518 A = R.getD 0 0 from aR 0 (by omega)]
    have r0 := rR 0
    have r1 := rR 1
    have eR : R = [R.getD 0 0, R.getD 1 0] := by
      match R, lR with
      | [], h => exact absurd h (by rw [List.length_nil]; omega)
      | [y], h => exact absurd h (by rw [List.length_cons, List.length_nil]; omega)
      | [y, y2], _ => rfl
      | y :: y2 :: y3 :: r, h => exact absurd h (by rw [List.length_cons, List.length_cons, List.length_cons]; omega)
    refine ev_gg (by first | omega | (constructor <;> omega)) ?_
    refine ev_ite (fun q => ?_) (fun q => ?_)
    · exact p72 (fun e => q (by rw [e]; rfl))
    · refine ev_gv ?_
      refine ev_gv ?_
      refine ev_gg (by first | omega | (constructor <;> omega)) ?_
      refine ev_gv ?_
      rw [show ((A : Int) + 1).toNat = A + 1 by omega, aR 1 (by omega)]
      refine ev_gg (by first | omega | (constructor <;> omega)) ?_
      refine ev_ite (fun q2 => ?_) (fun q2 => ?_)
      · exact p72 (fun e => q2 (by rw [e]; rfl))
      · have e42 : R = [42, 42] := by rw [eR, show R.getD 0 0 = 42 by omega, show R.getD 1 0 = 42 by omega]
        rw [if_pos (une_4242.mpr e42)]
        exact p48 (nz V g) g L S rfl hm fc_rf
end SEL
