/-! THE REFERENCE's take, sorted, both -/
section CHS
variable {d F K : Nat} {V : List ND} {w : Int}
theorem wo_0 : ∀ (f : Nat) (T : List ND), TR T ∧ PZL T → woF 0 f T = T
  | 0, T, _ => rfl
  | f + 1, T, h => by
    unfold woF
    rcases tr_cases h with ⟨a, _⟩ | ⟨a, b⟩
    · rw [if_neg (by omega)]
    · rw [if_pos a]
      have e1 : koS 0 T = kd T := by unfold koS; rw [if_neg (fun z => by have := z.2; omega)]
      have e2 : (kd T).map (woF 0 f) = kd T := by
        have := List.map_congr_left (f := woF 0 f) (g := id) (l := kd T) (fun t ht => wo_0 f t (kd_tr h.1 h.2 t ht))
        rw [this, List.map_id]
      rw [e1, e2]
      exact b.symm
theorem fs_01 {g : Nat} (hw : w = 0 ∨ w = 1) : fsN V w g = orV V g w ∧ ∀ c, emN V w g c = c := by
  unfold fsN emN
  exact ⟨if_neg (fun z => by have := z.2; omega), fun c => if_neg (fun z => by have := z.2; omega)⟩
theorem orV_nil {g : Nat} (h : kids V g = []) : orV V g w = [] := by
  unfold orV
  rw [h]
  split <;> rfl
theorem ch_of (hF : F < 48) (hV : TR V ∧ PZL V) (hw : w = 0 ∨ w = 1) {g : Nat} (hg : g < V.length) (h4 : 4 ≤ nk V g) : ∀ (L : List Nat) (last : Int), (last = -1 ∨ ∃ c ∈ kids V g, last = (c : Int)) → ChN (nxW V g w) (nxW V g w last) L → (∀ c ∈ L, c ∈ kids V g) → ChT F V g w last L
  | [], last, h1, h2, h3 => fun S d hd hL => by
    have := q_nextChild (S := S) (d := d) (k := (F : Int)) (g := (g : Int)) (q := last) (w := w) (by omega) rfl hF rfl hw hL hV hg h4 h1
    have e : nxW V g w last = -1 := h2
    rw [e] at this
    exact this
  | c :: L, last, h1, h2, h3 => ⟨fun S d hd hL => by
      have := q_nextChild (S := S) (d := d) (k := (F : Int)) (g := (g : Int)) (q := last) (w := w) (by omega) rfl hF rfl hw hL hV hg h4 h1
      have e : nxW V g w last = (c : Int) := h2.1
      rw [e] at this
      exact this, ch_of hF hV hw hg h4 L (c : Int) (Or.inr ⟨c, h3 c List.mem_cons_self, rfl⟩) h2.2 (fun y hy => h3 y (List.mem_cons_of_mem _ hy))⟩
theorem chO_01 (hF : F < 48) (hV : TR V ∧ PZL V) (hl : V.length ≤ 100) (hw : w = 0 ∨ w = 1) {g : Nat} (hg : g < V.length) (h4 : 4 ≤ nk V g) : ChO d F V w g := by
  obtain ⟨o1, o2, o3⟩ := ord_ch hV hl hg w
  obtain ⟨f1, f2⟩ := fs_01 (V := V) (g := g) hw
  refine ⟨by rw [f1]; exact ch_of hF hV hw hg h4 _ _ (Or.inl rfl) o1 o3, fun c hc => ?_, fun c hc h3 => by omega⟩
  rw [f1] at hc
  rw [f2]
  exact ⟨o3 c hc, o3 c hc⟩
/-- what is chosen, by the ways 0 and 1 -/
theorem ch_wo (hw : w = 0 ∨ w = 1) (hv : SDC V) (hl : V.length ≤ 100) : ∀ (f g : Nat), g < V.length → (∀ r, dpS r (sg V g) ≤ (f : Int)) → chM V w f g = mny (woF w f (sg V g)) := by
  have hz := pz_l hv.1.2
  have leaf : ∀ (f g : Nat), g < V.length → rk (sg V g) < 4 → chM V w f g = [wZ (V.getD g nd0) 0] ∧ mny (sg V g) = [wZ (V.getD g nd0) 0] := by
    intro f g hg h
    have ht := sdc_sg V.length V (Nat.le_refl _) hv g hg
    have rt := sg_root hg (hz g)
    refine ⟨?_, ?_⟩
    · cases f with
      | zero => rfl
      | succ f =>
        have kl := kids_le hv.1.1.1 hz (g := g)
        have ck : kids V g = [] := by
          have := hv.1.1.1.2.2 g hg (by rw [rk_sg hg (hz g)] at h; exact h)
          exact List.length_eq_zero_iff.mp (by omega)
        unfold chM
        rw [(fs_01 hw).1, orV_nil ck]
        rfl
    · rcases tr_cases ht.1 with ⟨a, b, c⟩ | ⟨a, b⟩
      · rw [b, mny_leaf c, rt]
      · omega
  intro f
  induction f with
  | zero =>
    intro g hg hd
    have h0 : rk (sg V g) < 4 := by
      by_cases q : 4 ≤ rk (sg V g)
      · have := hd 0
        unfold dpS at this
        rw [if_pos q] at this
        omega
      · omega
    rw [(leaf 0 g hg h0).1]
    exact (leaf 0 g hg h0).2.symm
  | succ f ih =>
    intro g hg hd
    by_cases h4 : rk (sg V g) < 4
    · rw [(leaf (f + 1) g hg h4).1]
      unfold woF
      rw [if_neg (by omega)]
      exact (leaf (f + 1) g hg h4).2.symm
    · obtain ⟨o1, o2, o3⟩ := ord_ch hv.1 hl hg w
      have ht := sdc_sg V.length V (Nat.le_refl _) hv g hg
      have rt := sg_root hg (hz g)
      have kdg := kd_sg hv.1.2 hv.1.1.1 hg
      unfold woF
      rw [if_pos (by omega), mny_gp (show 4 ≤ ((sg V g).getD 0 nd0).1 from by have : rk (sg V g) = ((sg V g).getD 0 nd0).1 := rfl; omega) (fun t ht2 => by
        obtain ⟨u, hu, rfl⟩ := List.mem_map.mp ht2
        have uk := koS_mem u hu
        exact (wo_sdc f u (sdc_kd ht uk) (by have := mem_len uk; have := hv.1.1.1.1 g hg; have := len_kd ht.1; have := sg_len hv.1.1.1 hg; omega)).1.1), rt, ← o2, List.map_map, List.map_map]
      unfold chM
      rw [(fs_01 hw).1, List.length_map]
      congr 2
      refine List.map_congr_left (fun c hc => ?_)
      rw [(fs_01 hw).2]
      have ck := o3 c hc
      have c3 := kid_in3 hv.1.1.1 hz hg ck
      exact ih c c3.2.1 (dp_kd hd (by omega) (by rw [kdg]; exact List.mem_map.mpr ⟨c, ck, rfl⟩))
/-- what is chosen, at the top: without KEY -/
def chK (V : List ND) (w : Int) (I : Nat) : List ND := wQ (wZ (V.getD I nd0) (fsN V w I).length) [] :: ((fsN V w I).map (fun c => chM V w 11 (emN V w I c))).flatten
theorem chK_ky {I : Nat} {T : List ND} (h : chM V w 12 I = mny T) (hT : TR T) : chK V w I = mny (kyT T []) := by
  rw [mny_ky hT]
  have e := mny_root hT
  rw [← h] at e
  have e2 : wZ (V.getD I nd0) (fsN V w I).length :: ((fsN V w I).map (fun c => chM V w 11 (emN V w I c))).flatten = wZ (T.getD 0 nd0) (kd T).length :: (chM V w 12 I).tail := e
  obtain ⟨a, b⟩ := List.cons.inj e2
  unfold chK
  rw [a, ← h, b]
theorem q_choose {k f i : Int} {I : Nat} {S : GS} (hd : 9 ≤ d) (hf : f = (F : Int)) (hF : F < 48) (hk : k = (K : Int)) (hK : K < 48) (hi : i = (I : Int)) (hne : F ≠ K) (hV : TR V ∧ PZL V) (hw : 0 ≤ w ∧ w ≤ 3) (hO : ∀ g, g < V.length → 4 ≤ nk V g → kids V g ≠ [] → ChO d F V w g) (hL : LK S F V) (hI : I < V.length) (hdp : ∀ r, dpS r (sg V I) ≤ 12) (hlen : (chK V w I).length ≤ 100) : Ev (fun n => f_X12_choose n d 0 S [f, i, k, w]) (fun _ S1 => MD S1 K (some (chK V w I)) ∧ FC (chP K 0) S S1) := by
  subst hf hk hi
  have hz := pz_l hV.2
  have l1 := hL.2.1
  have nr := hL.2.2.2 _ (nd_mem hI)
  refine ev_up (fun n => e_X12_choose_0) ?_
  unfold b_X12_choose_0
  refine ev_gg (by first | omega | (constructor <;> omega)) ?_
  refine ev_gc (q_begin1 (d := d - 1) rfl hK) (fun _ S1 q1 => ?_)
  have hL1 := lk_fr hL q1.2 (fun j _ _ => by omega) (by omega)
  refine ev_gc (q_like (d := d - 1) (K := K) (F := F) (I := I) (x := wZ (V.getD I nd0) 0) (by omega) rfl hK rfl hF rfl (by omega) hne (nr_nw nr 0 (by decide)) (cr_z.mpr (hL1.2.2.1 I hI).1) q1.1) (fun y S2 q2 => ?_)
  obtain ⟨m2, f2, y2⟩ := q2
  have y0 : y = 0 := by rw [y2, q1.1.2.1]; rfl
  subst y0
  rw [apM_some (by show (1 : Nat) ≤ 100; decide)] at m2
  refine ev_gc (q_noKeyM (d := d - 1) (K := K) (I := 0) (by omega) rfl hK rfl (by decide) m2) (fun _ S3 q3 => ?_)
  obtain ⟨m3, f3⟩ := q3
  have m3' : MD S3 K (some [wZ (wQ (V.getD I nd0) []) 0]) := m3
  have f03 : FC (chP K 0) S S3 := fc_tr (fc_mono q1.2 (fun c j z => by omega)) (fc_tr (fc_mono f2 (fun c j z => Or.inl z)) (fc_mono f3 (fun c j z => by omega)))
  refine ev_gg (by decide) ?_
  refine ev_gv ?_
  refine ev_gv ?_
  refine ev_gv ?_
  rw [show (0 : Int).toNat = 0 from rfl]
  have f5 : FC (chP K 0) S3 (gI (gI (gI S3 513 0 (I : Int)) 514 0 0) 515 0 (-1)) := fc_tr (fc_gI (Or.inr (Or.inl ⟨rfl, by omega⟩))) (fc_tr (fc_gI (Or.inr (Or.inr (Or.inl ⟨rfl, by omega⟩)))) (fc_gI (Or.inr (Or.inr (Or.inr ⟨rfl, by omega⟩)))))
  have f5' : FC (fun c j => c = 513 ∨ c = 514 ∨ c = 515) S3 (gI (gI (gI S3 513 0 (I : Int)) 514 0 0) 515 0 (-1)) := fc_tr (fc_gI (Or.inl rfl)) (fc_tr (fc_gI (Or.inr (Or.inl rfl))) (fc_gI (Or.inr (Or.inr rfl))))
  have m5 := mdr_fr m3' f5' (fun j _ _ => by omega) (by omega) (by omega)
  have c513 : (gI (gI (gI S3 513 0 (I : Int)) 514 0 0) 515 0 (-1)).1 513 0 = (I : Int) := by rw [gI_c (by decide), gI_c (by decide), gI_a]
  have c514 : (gI (gI (gI S3 513 0 (I : Int)) 514 0 0) 515 0 (-1)).1 514 0 = 0 := by rw [gI_c (by decide), gI_a]
  have c515 : (gI (gI (gI S3 513 0 (I : Int)) 514 0 0) 515 0 (-1)).1 515 0 = -1 := gI_a
  generalize gI (gI (gI S3 513 0 (I : Int)) 514 0 0) 515 0 (-1) = S5 at f5 m5 c513 c514 c515 ⊢
  have f55 := fc_tr f03 f5
  have hL5 : LK S5 F V := lk_fr hL f55 (fun j _ _ => by omega) (by omega)
  by_cases ckn : kids V I = []
  · have e0 : fsN V w I = [] := by
      unfold fsN
      rw [orV_nil ckn, ckn]
      split <;> rfl
    refine ev_up (fun n => e_X12_choose_49) ?_
    unfold b_X12_choose_49
    refine ev_gg (by decide) ?_
    refine ev_ite (fun z => by omega) (fun _ => ?_)
    refine ev_gv ?_
    refine ev_gg (by decide) ?_
    refine ev_gv ?_
    rw [show ((1 : Int) - 1).toNat = 0 from rfl, c513]
    refine ev_gg (by first | omega | (constructor <;> omega)) ?_
    refine ev_gcr (q_manyL (d := d - 1) (K := F) (I := I) (by omega) rfl hF rfl hL5 hI) ?_
    rw [ckn, List.length_nil]
    refine ev_gg (by decide) ?_
    refine ev_ite (fun z => by omega) (fun _ => ?_)
    refine ev_up (fun n => e_X12_choose_98) ?_
    unfold b_X12_choose_98
    refine ev_gg (by decide) ?_
    refine ev_ite (fun z => by omega) (fun _ => ?_)
    refine ev_gv ?_
    rw [show (1 : Int) + (-1) = 0 from rfl]
    refine ev_up (fun n => e_X12_choose_49) ?_
    unfold b_X12_choose_49
    refine ev_gg (by decide) ?_
    refine ev_ite (fun _ => ?_) (fun z => by omega)
    refine ev_ret ⟨?_, f55⟩
    unfold chK
    rw [e0]
    exact m5
  · have c4 : 4 ≤ nk V I := by
      have kl := kids_le hV.1.1 hz (g := I)
      by_cases q : nk V I < 4
      · have := hV.1.1.2.2 I hI q
        exact absurd (List.length_eq_zero_iff.mp (by omega)) ckn
      · omega
    have hfs : (fsN V w I).length ≤ 100 := by
      have : ∀ (L : List Nat), L.length ≤ ((L.map (fun e => chM V w 11 (emN V w I e))).flatten).length := by
        intro L
        induction L with
        | nil => exact Nat.zero_le _
        | cons a L ihL =>
          rw [List.map_cons, List.flatten_cons, List.length_append, List.length_cons]
          have : 1 ≤ (chM V w 11 (emN V w I a)).length := by show 1 ≤ (_ :: _ : List ND).length; rw [List.length_cons]; omega
          omega
      have := this (fsN V w I)
      unfold chK at hlen
      rw [List.length_cons] at hlen
      omega
    refine ch_loop (by omega) hF hK hne hV hw (ch_sub (by omega) hF hK hne hV hw hO 11) hI c4 ckn hdp (by decide) (hO I hI c4 ckn) (A := []) (z := wQ (V.getD I nd0) []) (R := chK V w I) (S := S5) (top := 0) hL5 hlen (fun S6 m6 f6 => ?_) (fsN V w I) (-1) S5 [] 0 (hO I hI c4 ckn).1 (fun y hy => hy) c513 c514 c515 m5 fc_rf (by omega) ?_
    · refine ev_up (fun n => e_X12_choose_49) ?_
      unfold b_X12_choose_49
      refine ev_gg (by decide) ?_
      refine ev_ite (fun _ => ?_) (fun z => by omega)
      exact ev_ret ⟨m6, fc_tr f55 f6⟩
    · rw [Nat.zero_add]
      rfl
theorem wo_dp : ∀ (f : Nat) (T : List ND) (b : Int), SDC T → T.length ≤ 100 → (∀ g, dpS g T ≤ b) → ∀ g, dpS g (woF w f T) ≤ b
  | 0, T, b, _, _, h, g => h g
  | f + 1, T, b, hT, hl, h, g => by
    have b0 : 0 ≤ b := Int.le_trans dp_0 (h 0)
    unfold woF
    by_cases c : 4 ≤ rk T
    · rw [if_pos c]
      have b1 : 1 ≤ b := by
        have := h 0
        unfold dpS at this
        rw [if_pos c] at this
        exact this
      obtain ⟨b', rfl⟩ : ∃ b', b = b' + 1 := ⟨b - 1, by omega⟩
      have kk : ∀ t ∈ koS w T, SDC t ∧ t.length ≤ 100 ∧ ∀ g, dpS g t ≤ b' := fun t ht => by
        have := koS_mem t ht
        have l := mem_len this
        have l2 := len_kd hT.1
        exact ⟨sdc_kd hT this, by omega, dp_kd h c this⟩
      refine dp_gp (by omega) (fun u hu => ?_) (fun u hu => ?_) g
      · obtain ⟨t, ht, rfl⟩ := List.mem_map.mp hu
        exact (wo_sdc f t (kk t ht).1 (kk t ht).2.1).1.1
      · obtain ⟨t, ht, rfl⟩ := List.mem_map.mp hu
        exact wo_dp f t b' (kk t ht).1 (kk t ht).2.1 (kk t ht).2.2
    · rw [if_neg c]
      exact h g
theorem wo_doc {f : Nat} {T : List ND} (h : SDC T) (hl : T.length ≤ 100) (hd : ∀ g, dpS g T ≤ 12) : DOC (kyT (woF w f T) []) := by
  have a := wo_sdc (w := w) f T h hl
  exact doc_ky a.1 ⟨by omega, wo_dp f T 12 h hl hd 13⟩
end CHS
section CHS2
variable {S0 S S1 : GS} {T0 : List ND} {Ds : List (List ND)} {pg pp : List Int} {r : Int} {L : List Nat} {Q : List (List Int)} {C : List (Int × Int)} {d : Nat}
/-- what was made is linked, and kept -/
theorem r_made {W : List ND} (hd : 2 ≤ d) (h : RfS S0 T0 Ds pg pp r L Q C S) (hl : Ds.length < 40) (hM : MD S 40 (some (mny W))) (hW : DOC W) (t : S.1 500 0 = 0) : Ev (fun n => gc (f_X12_link n d 0 S [40]) fun _ S_11 => gc (f_X12_keeps n d 0 S_11 [40]) fun x13 S_14 => some (x13, S_14)) (fun x S1 => x = (Ds.length : Int) ∧ S1.1 500 0 = 0 ∧ RfS S0 T0 (Ds ++ [W]) pg pp r L Q C S1) := by
  refine ev_gc (q_link (d := d) (K := 40) (V := W) hd rfl (by decide) hW.1.1 (fun y hy => (hW.1.2.1 y hy).1) hM.2) (fun _ S1 q => ?_)
  have h1 := rf_sc h q.2 (fun c j z => by have := hW.2.2.1; omega)
  refine ev_gc (r_keeps (d := d) (K := 40) (V := W) (by omega) rfl (by decide) h1 hl q.1 hW) (fun x S2 q2 => ?_)
  exact ev_ret ⟨q2.1, by rw [q2.2.1, fc_i q.2 (by omega)]; exact t, q2.2.2⟩
theorem r_chosen {a i w : Int} (hd : 9 ≤ d) (hw : w = 0 ∨ w = 1) (h : RfS S0 T0 Ds pg pp r L Q C S) (hl : Ds.length < 40) (hn : hasD Ds a ∧ 0 ≤ i ∧ i < ((atD' Ds a).length : Int)) (t : S.1 500 0 = 0) : Ev (fun n => gc (f_X12_choose n d 0 S [a, i, 40, w]) fun _ S_8 => gc (f_X12_link n d 0 S_8 [40]) fun _ S_11 => gc (f_X12_keeps n d 0 S_11 [40]) fun x13 S_14 => some (x13, S_14)) (fun x S1 => x = (Ds.length : Int) ∧ S1.1 500 0 = 0 ∧ RfS S0 T0 (Ds ++ [kyT (woF w 12 (sg (atD' Ds a) i.toNat)) []]) pg pp r L Q C S1) := by
  obtain ⟨e1, e2, e3, e4⟩ := r_at h hn.1
  generalize atD' Ds a = V at hn e3 e4 ⊢
  obtain ⟨i, rfl⟩ : ∃ j : Nat, i = (j : Int) := ⟨i.toNat, by omega⟩
  rw [Int.toNat_natCast]
  have il : i < V.length := by omega
  have ds := doc_sg e4 il
  have dk := wo_doc (w := w) (f := 12) ds.1 ds.2.2 ds.2.1
  have ek : chK V w i = mny (kyT (woF w 12 (sg V i)) []) := chK_ky (ch_wo hw e4.1 e4.2.2.1 12 i il ds.2.1) (wo_sdc 12 _ ds.1 ds.2.2).1.1.1
  refine ev_gc (q_choose (d := d) (F := a.toNat) (K := 40) (I := i) hd e1 (by omega) rfl (by decide) rfl (by omega) e4.1.1 (by omega) (fun g hg h4 _ => chO_01 (by omega) e4.1.1 e4.2.2.1 hw hg h4) e3 il ds.2.1 (by rw [ek, mny_len]; exact dk.2.2.1)) (fun _ S1 q => ?_)
  obtain ⟨m1, f1⟩ := q
  rw [ek] at m1
  have h1 := rf_sc h f1 (fun c j z => by omega)
  exact r_made (by omega) h1 hl m1 dk (by rw [fc_i f1 (by omega)]; exact t)
theorem r_take {a i : Int} (hd : 10 ≤ d) (ha : inr a) (hi : inr i) (h : RfS S0 T0 Ds pg pp r L Q C S) : Ev (fun n => f_X12_take n d 0 S [a, i]) (fun x S1 => if hasD Ds a ∧ 0 ≤ i ∧ i < ((atD' Ds a).length : Int) then (if Ds.length < 40 then x = (Ds.length : Int) ∧ S1.1 500 0 = 0 ∧ RfS S0 T0 (Ds ++ [kyT (sg (atD' Ds a) i.toNat) []]) pg pp r L Q C S1 else S1.1 500 0 = 2 ∧ RfS S0 T0 Ds pg pp r L Q C S1) else S1.1 500 0 = 1 ∧ RfS S0 T0 Ds pg pp r L Q C S1) := by
  refine ev_up (fun n => e_X12_take_0) ?_
  unfold b_X12_take_0
  refine ev_gg (by first | omega | (constructor <;> omega)) ?_
  refine ev_gcr (r_isNode (d := d - 1) (by omega) ha hi h) ?_
  refine fa_c rfl h (fun c S1 t1 f1 h1 => ?_) (fun c S1 t1 f1 h1 => ?_)
  · refine ev_gg (by decide) ?_
    refine ev_ite (fun z => by omega) (fun _ => ?_)
    refine ev_gv ?_
    simp only [if_pos c]
    have n4 := h1.1.2.1
    have p29 : ∀ s : Int, s = (if Ds.length < 40 then 1 else 0) → Ev (fun n => f_X12_take n d 29 S1 [a, i, s]) (fun x S1 => if Ds.length < 40 then x = (Ds.length : Int) ∧ S1.1 500 0 = 0 ∧ RfS S0 T0 (Ds ++ [kyT (sg (atD' Ds a) i.toNat) []]) pg pp r L Q C S1 else S1.1 500 0 = 2 ∧ RfS S0 T0 Ds pg pp r L Q C S1) := by
      intro s hs
      refine ev_up (fun n => e_X12_take_29) ?_
      unfold b_X12_take_29
      refine ev_gg (by first | omega | (constructor <;> omega)) ?_
      refine fa_c hs h1 (fun c2 S2 t2 f2 h2 => ?_) (fun c2 S2 t2 f2 h2 => ?_)
      · refine ev_gg (by decide) ?_
        refine ev_ite (fun _ => ?_) (fun z => by omega)
        simp only [if_pos c2]
        have := r_chosen (d := d - 1) (w := 0) (by omega) (Or.inl rfl) h2 c2 c t2
        have dV := (r_at h2 c.1).2.2.2
        rw [wo_0 12 _ (doc_sg dV (show i.toNat < (atD' Ds a).length by omega)).1.1] at this
        exact this
      · refine ev_gg (by decide) ?_
        refine ev_ite (fun z => by omega) (fun _ => ?_)
        refine ev_ret ?_
        rw [if_neg c2]
        exact ⟨t2, h2⟩
    rw [h1.1.1]
    refine ev_gg (by first | omega | (constructor <;> omega)) ?_
    refine ev_ite (fun z => ?_) (fun z => ?_)
    · exact p29 0 (by rw [if_neg (by omega)])
    · exact p29 1 (by rw [if_pos (by omega)])
  · refine ev_gg (by decide) ?_
    refine ev_ite (fun _ => ?_) (fun z => by omega)
    refine ev_ret ?_
    rw [if_neg c]
    exact ⟨t1, h1⟩
theorem r_sorted {a : Int} (hd : 10 ≤ d) (ha : inr a) (h : RfS S0 T0 Ds pg pp r L Q C S) : Ev (fun n => f_X12_sorted n d 0 S [a]) (fun x S1 => if hasD Ds a then (if Ds.length < 40 then x = (Ds.length : Int) ∧ S1.1 500 0 = 0 ∧ RfS S0 T0 (Ds ++ [kyT (woF 1 12 (atD' Ds a)) []]) pg pp r L Q C S1 else S1.1 500 0 = 2 ∧ RfS S0 T0 Ds pg pp r L Q C S1) else S1.1 500 0 = 1 ∧ RfS S0 T0 Ds pg pp r L Q C S1) := by
  refine ev_up (fun n => e_X12_sorted_0) ?_
  unfold b_X12_sorted_0
  refine ev_gg (by first | omega | (constructor <;> omega)) ?_
  refine ev_gcr (r_isDoc (d := d - 1) (by omega) ha h) ?_
  refine fa_c rfl h (fun c S1 t1 f1 h1 => ?_) (fun c S1 t1 f1 h1 => ?_)
  · refine ev_gg (by decide) ?_
    refine ev_ite (fun z => by omega) (fun _ => ?_)
    refine ev_gv ?_
    simp only [if_pos c]
    have n4 := h1.1.2.1
    have p28 : ∀ s : Int, s = (if Ds.length < 40 then 1 else 0) → Ev (fun n => f_X12_sorted n d 28 S1 [a, s]) (fun x S1 => if Ds.length < 40 then x = (Ds.length : Int) ∧ S1.1 500 0 = 0 ∧ RfS S0 T0 (Ds ++ [kyT (woF 1 12 (atD' Ds a)) []]) pg pp r L Q C S1 else S1.1 500 0 = 2 ∧ RfS S0 T0 Ds pg pp r L Q C S1) := by
      intro s hs
      refine ev_up (fun n => e_X12_sorted_28) ?_
      unfold b_X12_sorted_28
      refine ev_gg (by first | omega | (constructor <;> omega)) ?_
      refine fa_c hs h1 (fun c2 S2 t2 f2 h2 => ?_) (fun c2 S2 t2 f2 h2 => ?_)
      · refine ev_gg (by decide) ?_
        refine ev_ite (fun _ => ?_) (fun z => by omega)
        simp only [if_pos c2]
        have dV := (r_at h2 c).2.2.2
        have lV := dV.1.1.1.2.1
        have := r_chosen (d := d - 1) (w := 1) (i := 0) (by omega) (Or.inr rfl) h2 c2 ⟨c, by decide, by omega⟩ t2
        rw [show (0 : Int).toNat = 0 from rfl, sg_selT dV.1.1.1] at this
        exact this
      · refine ev_gg (by decide) ?_
        refine ev_ite (fun z => by omega) (fun _ => ?_)
        refine ev_ret ?_
        rw [if_neg c2]
        exact ⟨t2, h2⟩
    rw [h1.1.1]
    refine ev_gg (by first | omega | (constructor <;> omega)) ?_
    refine ev_ite (fun z => ?_) (fun z => ?_)
    · exact p28 0 (by rw [if_neg (by omega)])
    · exact p28 1 (by rw [if_pos (by omega)])
  · refine ev_gg (by decide) ?_
    refine ev_ite (fun _ => ?_) (fun z => by omega)
    refine ev_ret ?_
    rw [if_neg c]
    exact ⟨t1, h1⟩
end CHS2
