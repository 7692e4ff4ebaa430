/-! Writings: how long; the reference's whole writing; on the paper -/
theorem wbd_congr {ln mp : Bool} {ind : Nat} {g h : List ND → List Int} : ∀ (b : Bool) (L : List (List ND)), (∀ t ∈ L, g t = h t) → wbd ln mp ind g b L = wbd ln mp ind h b L
  | b, [], _ => by cases b <;> rfl
  | b, t :: L, e => by
    show wpr b ln mp ind (rq t) ++ g t ++ wbd ln mp ind g false L = wpr b ln mp ind (rq t) ++ h t ++ wbd ln mp ind h false L
    rw [e t List.mem_cons_self, wbd_congr false L (fun u hu => e u (List.mem_cons_of_mem _ hu))]
theorem koS_mem {w : Int} {T : List ND} : ∀ t ∈ koS w T, t ∈ kd T := by
  intro t ht
  unfold koS at ht
  split at ht
  · exact (obS_mem 100 none t ht).1
  · exact ht
theorem wr_fuel : ∀ (f : Nat) (T : List ND) (w : Int) (ind g : Nat), (∀ r, dpS r T ≤ (f : Int)) → f ≤ g → wrF g w ind T = wrF f w ind T
  | 0, T, w, ind, g, hd, _ => by
    have h0 := hd 0
    unfold dpS at h0
    have c : rk T < 4 := by
      by_cases c : 4 ≤ rk T
      · rw [if_pos c] at h0; omega
      · omega
    rw [wr_leaf c, wr_leaf c]
  | f + 1, T, w, ind, g, hd, hg => by
    obtain ⟨g, rfl⟩ : ∃ g', g = g' + 1 := ⟨g - 1, by omega⟩
    by_cases c : rk T < 4
    · rw [wr_leaf c, wr_leaf c]
    · unfold wrF
      rw [if_neg c, if_neg c]
      have e : ∀ t ∈ koS w T, wrF g w (ind + 1) t = wrF f w (ind + 1) t := fun t ht => wr_fuel f t w (ind + 1) g (dp_kd hd (by omega) (koS_mem t ht)) (by omega)
      rw [wbd_congr true _ e]
theorem wsign_le6 (x : Int) : (wsign x).length ≤ 6 := by
  unfold wsign
  split
  · split <;> simp
  · simp
theorem wtx_len : ∀ (q : List Int), (wtx q).length ≤ 6 * q.length
  | [] => Nat.le_refl _
  | x :: q => by
    have a := wsign_le6 x
    have b := wtx_len q
    rw [wtx_cons, List.length_append, List.length_cons]
    omega
theorem wq_len (q : List Int) : (wq q).length ≤ 6 * q.length + 2 := by
  have := wtx_len q
  unfold wq
  simp only [List.length_append, List.length_cons, List.length_nil]
  omega
theorem wln_len (k : Nat) : (wln k).length = 2 * k + 1 := by
  unfold wln
  rw [List.length_append, List.length_replicate, List.length_singleton]
  omega
theorem sx_lens : (sx 12).length = 4 ∧ (sx 13).length = 4 ∧ (sx 14).length = 5 ∧ (sx 16).length = 2 ∧ (sx 17).length = 1 := by decide +kernel
theorem wsc_len {T : List ND} (h : (rt T).length ≤ 40) : (wsc T).length ≤ 242 := by
  obtain ⟨s1, s2, s3, _, _⟩ := sx_lens
  unfold wsc
  split
  · omega
  · split
    · split <;> omega
    · split
      · unfold wnb
        have := wnum_len (rp T)
        rw [List.length_append]
        split
        · simp; omega
        · rw [List.length_append, List.length_singleton]; omega
      · have := wq_len (rt T)
        omega
theorem wpr_len {b ln mp : Bool} {ind : Nat} {q : List Int} (hq : q.length ≤ 12) (hi : ind ≤ 12) : (wpr b ln mp ind q).length ≤ 104 := by
  obtain ⟨_, _, _, s4, s5⟩ := sx_lens
  have a := wq_len q
  have c := wln_len (ind + 1)
  unfold wpr
  rw [List.length_append, List.length_append]
  have x1 : (if b = true then [] else [44] : List Int).length ≤ 1 := by split <;> simp
  have x2 : (if ln = true then wln (ind + 1) else []).length ≤ 27 := by
    split
    · omega
    · simp
  have x3 : (if mp = true then wq q ++ (if ln = true then sx 16 else sx 17) else []).length ≤ 76 := by
    split
    · rw [List.length_append]
      split <;> omega
    · simp
  omega
theorem wbd_le {ln mp : Bool} {ind : Nat} {g : List ND → List Int} (hi : ind ≤ 12) : ∀ (b : Bool) (L : List (List ND)), (∀ t ∈ L, (rq t).length ≤ 12 ∧ (g t).length + 104 ≤ 346 * t.length) → (wbd ln mp ind g b L).length ≤ 346 * L.flatten.length
  | b, [], _ => by cases b <;> exact Nat.le_refl _
  | b, t :: L, h => by
    have a := h t List.mem_cons_self
    have c := wbd_le (ln := ln) (mp := mp) (g := g) hi false L (fun u hu => h u (List.mem_cons_of_mem _ hu))
    have e := wpr_len (b := b) (ln := ln) (mp := mp) a.1 hi
    show (wpr b ln mp ind (rq t) ++ g t ++ wbd ln mp ind g false L).length ≤ _
    rw [List.length_append, List.length_append, List.flatten_cons, List.length_append]
    omega
theorem root_nr {T : List ND} (h : SDC T) : NR (T.getD 0 nd0) ∧ VN (T.getD 0 nd0) := h.2.1 _ (root_mem h.1.1)
theorem rq_ok {T : List ND} (h : SDC T) : (rq T).length ≤ 12 ∧ rng (rq T) := by
  have := (root_nr h).1
  exact ⟨this.2.2.2.2.2.2.2.2.1, this.2.2.2.2.2.2.2.2.2⟩
theorem rt_ok {T : List ND} (h : SDC T) : (rt T).length ≤ 40 ∧ rng (rt T) := by
  have := (root_nr h).1
  exact ⟨this.2.2.2.2.2.2.1, this.2.2.2.2.2.2.2.1⟩
theorem len_kd {T : List ND} (h : TR T ∧ PZL T) : T.length = (kd T).flatten.length + 1 := by
  have e := congrArg List.length (kd_flat h.2 h.1.2.1)
  rw [List.length_cons] at e
  exact e
/-- how long a writing is -/
theorem wr_len : ∀ (f : Nat) (T : List ND) (w : Int) (ind : Nat), SDC T → T.length ≤ 100 → (∀ r, dpS r T ≤ (f : Int)) → ind + f ≤ 13 → (wrF f w ind T).length + 104 ≤ 346 * T.length
  | 0, T, w, ind, h, hl, hd, hi => by
    have := wsc_len (rt_ok h).1
    have l1 := h.1.1.2.1
    show (wsc T).length + 104 ≤ _
    omega
  | f + 1, T, w, ind, h, hl, hd, hi => by
    have l1 := h.1.1.2.1
    by_cases c : rk T < 4
    · rw [wr_leaf c]
      have := wsc_len (rt_ok h).1
      omega
    · have pm := koS_perm (w := w) h hl
      have fl := (List.Perm.flatten pm).length_eq
      have lk := len_kd h.1
      have b := wbd_le (ln := wli w T) (mp := decide (rk T = 5)) (ind := ind) (g := wrF f w (ind + 1)) (by omega) true (koS w T) (fun t ht => by
        have tk := koS_mem t ht
        have st := sdc_kd h tk
        have tl : t.length ≤ 100 := by have := mem_len tk; omega
        exact ⟨(rq_ok st).1, wr_len f t w (ind + 1) st tl (dp_kd hd (by omega) tk) (by omega)⟩)
      unfold wrF
      rw [if_neg c, List.length_append, List.length_append]
      have e : (wend (wli w T) (decide (rk T = 5)) ind).length ≤ 28 := by
        unfold wend
        rw [List.length_append, List.length_singleton]
        split
        · rw [wln_len]; omega
        · simp
      have e0 : ([if rk T = 5 then (123 : Int) else 91]).length = 1 := rfl
      omega
section RWT
variable {S : GS} {d t K : Nat} {V : List ND}
abbrev wrP (t : Nat) : Nat → Nat → Prop := fun c j => ouP t c j ∨ c = 513 ∨ c = 515
/-- a NODE is written -/
theorem q_writes {a k i w : Int} {I : Nat} (hd : 7 ≤ d) (ha : a = (t : Int)) (ht : t < 2) (hk : k = (K : Int)) (hK : K < 48) (hi : i = (I : Int)) (hw : 0 ≤ w ∧ w ≤ 2) (hL : LK S K V) (hv : SDC V) (hI : I < V.length) (hdp : ∀ r, dpS r (sg V I) ≤ 12) : Ev (fun n => f_X12_writes n d 0 S [a, k, i, w]) (fun _ S1 => OuS S1 t (wrF 12 w 0 (sg V I)) ∧ FC (wrP t) S S1) := by
  subst ha hk hi
  have hV := hv.1
  have hz := pz_l hV.2
  have l1 := hL.2.1
  have wi := hV.1.1.1 I hI
  have zi := hz I
  have kl := kids_le hV.1.1 hz (g := I)
  have sT := sdc_sg V.length V (Nat.le_refl _) hv I hI
  have lT := sg_len hV.1.1 hI
  have rkk := rk_sg hI zi
  have kdg := kd_sg hV.2 hV.1.1 hI
  have nr := hL.2.2.2 _ (nd_mem hI)
  have kr : 0 ≤ nk V I ∧ nk V I ≤ 5 := ⟨nr.1, nr.2.1⟩
  have bound := wr_len 12 (sg V I) w 0 sT (by omega) hdp (by omega)
  have o0 : OuS (gI S 517 t 0) t [] := ⟨gI_a, by decide, fun i hi => absurd hi (Nat.not_lt_zero i), fun x hx => by cases hx⟩
  have f0 : FC (wrP t) S (gI S 517 t 0) := fc_gI (Or.inl (Or.inl ⟨rfl, rfl⟩))
  have hL0 : LK (gI S 517 t 0) K V := lk_fr hL f0 (fun j _ _ => by omega) (by omega)
  refine ev_up (fun n => e_X12_writes_0) ?_
  unfold b_X12_writes_0
  refine ev_gg (by first | omega | (constructor <;> omega)) ?_
  refine ev_gv ?_
  refine ev_gg (by first | omega | (constructor <;> omega)) ?_
  rw [Int.toNat_natCast]
  refine ev_gcr (q_manyL (d := d - 1) (K := K) (I := I) (by omega) rfl hK rfl hL0 hI) ?_
  refine ev_gg (by first | omega | (constructor <;> omega)) ?_
  refine ev_ite (fun z => ?_) (fun z => ?_)
  · have kn : kids V I ≠ [] := fun e => by rw [e] at z; exact z rfl
    have h4 : 4 ≤ nk V I := by
      by_cases q : nk V I < 4
      · have := hV.1.1.2.2 I hI q; omega
      · omega
    have ew : wrF 12 w 0 (sg V I) = [if nk V I = 5 then 123 else 91] ++ (wbd (wlB w) (decide (nk V I = 5)) 0 (wrF 11 w 1) true (koS w (sg V I)) ++ wend (wlB w) (decide (nk V I = 5)) 0) := by
      show (if rk (sg V I) < 4 then _ else _) = _
      rw [rkk, if_neg (by omega), wli_ne hV hI kn, List.append_assoc]
    rw [ew] at bound ⊢
    have p44 : ∀ s : Int, 0 ≤ s ∧ s < 256 → (if nk V I = 5 then (123 : Int) else 91) = s → Ev (fun n => f_X12_writes n d 44 (gI S 517 t 0) [(t : Int), (K : Int), (I : Int), w, s, (t : Int)]) (fun _ S1 => OuS S1 t ([if nk V I = 5 then 123 else 91] ++ (wbd (wlB w) (decide (nk V I = 5)) 0 (wrF 11 w 1) true (koS w (sg V I)) ++ wend (wlB w) (decide (nk V I = 5)) 0)) ∧ FC (wrP t) S S1) := by
      intro s hs es
      rw [es] at bound ⊢
      refine ev_up (fun n => e_X12_writes_44) ?_
      unfold b_X12_writes_44
      refine ev_gg (by first | omega | (constructor <;> omega)) ?_
      refine pu_c rfl ht o0 hs (by decide) (fun y S2 h2 f2 => ?_)
      rw [List.nil_append] at h2
      refine ev_gg (by decide) ?_
      refine ev_gv ?_
      refine ev_gv ?_
      rw [show (0 : Int).toNat = 0 from rfl]
      have f3 : FC (wrP t) S (gI (gI S2 513 0 I) 515 0 (-1)) := fc_tr f0 (fc_tr (fc_mono f2 (fun c j z => Or.inl z)) (fc_tr (fc_gI (Or.inr (Or.inl rfl))) (fc_gI (Or.inr (Or.inr rfl)))))
      have o3 : OuS (gI (gI S2 513 0 I) 515 0 (-1)) t [s] := ou_fr (ou_fr h2 (fc_gI (P := fun c j => c = 513) rfl) (by decide) (fun j _ _ => by decide)) (fc_gI (P := fun c j => c = 515) rfl) (by decide) (fun j _ _ => by decide)
      rw [List.length_append, List.length_singleton] at bound
      refine q_group (by omega) ht hK hv w hw 11 I 1 _ [s] _ hI h4 kn (by decide) (by decide) (fun r => by have := hdp r; omega) (lk_fr hL f3 (fun j _ _ => by omega) (by omega)) o3 (by rw [gI_c (by decide)]; exact gI_a) gI_a (by rw [List.length_singleton]; show 1 + (wbd (wlB w) (decide (nk V I = 5)) 0 (wrF 11 w 1) true (koS w (sg V I)) ++ wend (wlB w) (decide (nk V I = 5)) 0).length ≤ _; omega) (fun S6 h6 f6 => ?_)
      refine ev_up (fun n => e_X12_writes_64) ?_
      unfold b_X12_writes_64
      refine ev_gg (by first | omega | (constructor <;> omega)) ?_
      refine ev_ite (fun _ => ?_) (fun z => by omega)
      exact ev_ret ⟨h6, fc_tr f3 (fc_mono f6 (fun c j z => by omega))⟩
    refine ev_gcr (q_kindL (d := d - 1) (K := K) (I := I) (by omega) rfl hK rfl hL0 hI) ?_
    refine ev_gg (by first | omega | (constructor <;> omega)) ?_
    refine ev_ite (fun q => ?_) (fun q => ?_)
    · exact p44 123 (by decide) (by rw [if_pos (by omega)])
    · exact p44 91 (by decide) (by rw [if_neg (by omega)])
  · have kn : kids V I = [] := List.length_eq_zero_iff.mp (by omega)
    have e0 : wrF 12 w 0 (sg V I) = scW (sg V I) := scW_wr (by rw [kdg, kn]; rfl) (hdp 12)
    rw [e0] at bound ⊢
    refine ev_gc (q_putsScalar (d := d - 1) (K := K) (I := I) (by omega) rfl ht rfl hK rfl hL0 hV.2 hI (hv.2.1 _ (nd_mem hI)).2 o0 (by rw [List.length_nil]; omega)) (fun _ S3 q3 => ?_)
    rw [List.nil_append] at q3
    exact ev_ret ⟨q3.1, fc_tr f0 (fc_mono q3.2 (fun c j z => Or.inl z))⟩
/-- the paper -/
def PpS (S : GS) (l : List Int) : Prop := S.1 500 9 = (l.length : Int) ∧ l.length ≤ 39000 ∧ (∀ i, i < l.length → S.1 504 i = l.getD i 0) ∧ ∀ x ∈ l, 0 ≤ x ∧ x < 256
theorem q_onPaper {l : List Int} (h : OuS S 0 l) : Ev (fun n => f_X12_onPaper n d 0 S []) (fun x S1 => x = (l.length : Int) ∧ PpS S1 l ∧ FC (fun c j => (c = 500 ∧ j = 9) ∨ c = 504) S S1) := by
  obtain ⟨p1, p2, p3, p4⟩ := h
  have lp : ∀ (t u : Nat) (S1 : GS), u + t = l.length → S1.1 500 9 = (l.length : Int) → (∀ j, j < u → S1.1 504 j = l.getD j 0) → FC (fun c j => (c = 500 ∧ j = 9) ∨ c = 504) S S1 → Ev (fun n => f_X12_onPaper n d 12 S1 [(u : Int)]) (fun x S1 => x = (l.length : Int) ∧ PpS S1 l ∧ FC (fun c j => (c = 500 ∧ j = 9) ∨ c = 504) S S1) := by
    intro t
    induction t with
    | zero =>
      intro u S1 hu a1 hj hf
      refine ev_up (fun n => e_X12_onPaper_12) ?_
      unfold b_X12_onPaper_12
      refine ev_gv ?_
      rw [a1]
      refine ev_gg (by first | omega | (constructor <;> omega)) ?_
      refine ev_gg (by first | omega | (constructor <;> omega)) ?_
      refine ev_ite (fun _ => ?_) (fun z => by omega)
      refine ev_gv ?_
      exact ev_ret ⟨rfl, ⟨a1, p2, fun j j1 => hj j (by omega), p4⟩, hf⟩
    | succ t ih =>
      intro u S1 hu a1 hj hf
      refine ev_up (fun n => e_X12_onPaper_12) ?_
      unfold b_X12_onPaper_12
      refine ev_gv ?_
      rw [a1]
      refine ev_gg (by first | omega | (constructor <;> omega)) ?_
      refine ev_gg (by first | omega | (constructor <;> omega)) ?_
      refine ev_ite (fun z => by omega) (fun _ => ?_)
      refine ev_gg (by first | omega | (constructor <;> omega)) ?_
      refine ev_gv ?_
      refine ev_gg (by first | omega | (constructor <;> omega)) ?_
      refine ev_gv ?_
      refine ev_gv ?_
      have e := p3 u (by omega)
      rw [Nat.mul_zero, Nat.zero_add] at e
      rw [Int.toNat_natCast, fc_i hf (show ¬ ((516 = 500 ∧ u = 9) ∨ 516 = 504) by omega), e, show (u : Int) + 1 = ((u + 1 : Nat) : Int) by omega]
      refine ih (u + 1) _ (by omega) (by rw [gI_c (by decide)]; exact a1) (fun j j1 => ?_) (fc_tr hf (fc_gI (Or.inr rfl)))
      by_cases c : j = u
      · subst c; exact gI_a
      · rw [gI_k c]; exact hj j (by omega)
  refine ev_up (fun n => e_X12_onPaper_0) ?_
  unfold b_X12_onPaper_0
  refine ev_gg (by decide) ?_
  refine ev_gv ?_
  refine ev_gv ?_
  rw [show (0 : Int).toNat = 0 from rfl, p1]
  exact lp l.length 0 _ (by omega) gI_a (fun j j1 => by omega) (fc_gI (Or.inl ⟨rfl, rfl⟩))
end RWT
