/-! THE REFERENCE's patch -/
/-- two VALUES that are no MAPS both -/
def ptO (V U : List ND) (i j : Nat) (os : Option (List (List ND))) : Option (List (List ND)) := if smJ 13 V i U (j : Int) then os else if nk V i = 5 ∧ nk U j = 5 then os else if nk V i = 4 ∧ nk U j = 4 then btR V U (pth V i) i j os else addS os 21 (pth V i) [sg U j]
section RPP
variable {S : GS} {d A B : Nat} {V U : List ND} {os : Option (List (List ND))}
theorem vL_n {v : Nat} : vL U (v : Int) = [sg U v] := by
  unfold vL
  rw [if_neg (by omega), Int.toNat_natCast]
theorem q_likeL {k g f j : Int} {K G F J : Nat} {W : List ND} (hd : 3 ≤ d) (hk : k = (K : Int)) (hK : K < 48) (hg : g = (G : Int)) (hf : f = (F : Int)) (hF : F < 48) (hj : j = (J : Int)) (h : LK S K V) (hV : TR V ∧ PZL V) (hG : G < V.length) (h2 : LK S F W) (hJ : J < W.length) : Rd (fun n => f_X12_childLike n d 0 S [k, g, f, j]) (fdK V (nq W J) (kids V G)) S := by
  have l100 := h2.2.1
  have nr := h2.2.2.2 _ (nd_mem hJ)
  exact q_childLike (y := W.getD J nd0) (B := 6161 * F + 61 * J) hd hk hK hg (by omega) (by omega) h hV.1.1 hV.2 hG (h2.2.2.1 J hJ).1 ⟨nr.2.2.2.2.2.2.2.2.1, nr.2.2.2.2.2.2.2.2.2⟩
theorem q_patches {a b i j : Int} {I J : Nat} (hd : 11 ≤ d) (ha : a = (A : Int)) (hA : A < 40) (hb : b = (B : Int)) (hB : B < 40) (hi : i = (I : Int)) (hj : j = (J : Int)) (hL : LK S A V) (hM : LK S B U) (hV : DOC V) (hU : DOC U) (hI : I < V.length) (hJ : J < U.length) (h : LsQ 40 os S) : Ev (fun n => f_X12_patches n d 0 S [a, i, b, j]) (fun x S1 => x = (if ¬ smJ 13 V I U (J : Int) = true ∧ nk V I = 5 ∧ nk U J = 5 then 1 else 0) ∧ LsQ 40 (ptO V U I J os) S1 ∧ FC ptP S S1) := by
  have ej : smJ 13 V I U (J : Int) = smF 13 (sg V I) (sg U J) := by
    unfold smJ
    rw [if_pos (by omega), Int.toNat_natCast]
  have nr1 := hL.2.2.2 _ (nd_mem hI)
  have nr2 := hM.2.2.2 _ (nd_mem hJ)
  have kr1 : 0 ≤ nk V I ∧ nk V I ≤ 5 := ⟨nr1.1, nr1.2.1⟩
  have kr2 : 0 ≤ nk U J ∧ nk U J ≤ 5 := ⟨nr2.1, nr2.2.1⟩
  unfold ptO
  rw [ej]
  refine ev_up (fun n => e_X12_patches_0) ?_
  unfold b_X12_patches_0
  refine ev_gg (by first | omega | (constructor <;> omega)) ?_
  refine ev_gc (q_areEqual (d := d - 1) (by omega) ha (by omega) hi hb (by omega) hj hL hM hV.1 hU.1 hI hJ (doc_sg hV hI).2.1 (doc_sg hU hJ).2.1) (fun y S1 q1 => ?_)
  obtain ⟨ye, f1⟩ := q1
  have L1 := lk_fr hL f1 (fun j _ _ => by omega) (by omega)
  have M1 := lk_fr hM f1 (fun j _ _ => by omega) (by omega)
  have s1 := lsq_fr h f1 (fun j _ _ => by omega) (by omega) (by omega) (by omega)
  have f01 : FC ptP S S1 := fc_mono f1 (fun c j z => by first | exact pt_or z | exact pt_pn z | exact pt_eq z)
  by_cases cs : smF 13 (sg V I) (sg U J) = true
  · rw [if_pos cs] at ye
    subst ye
    rw [if_pos cs, if_neg (fun z => z.1 cs)]
    refine ev_gg (by decide) ?_
    refine ev_ite (fun z => by omega) (fun _ => ?_)
    exact ev_ret ⟨rfl, s1, f01⟩
  · rw [if_neg cs] at ye
    subst ye
    rw [if_neg cs]
    refine ev_gg (by decide) ?_
    refine ev_ite (fun _ => ?_) (fun z => by omega)
    have p69 : ¬ (nk V I = 5 ∧ nk U J = 5) → ¬ (nk V I = 4 ∧ nk U J = 4) → Ev (fun n => f_X12_patches n d 69 S1 [a, i, b, j]) (fun x S1 => x = (if ¬ smF 13 (sg V I) (sg U J) = true ∧ nk V I = 5 ∧ nk U J = 5 then 1 else 0) ∧ LsQ 40 (if nk V I = 5 ∧ nk U J = 5 then os else if nk V I = 4 ∧ nk U J = 4 then btR V U (pth V I) I J os else addS os 21 (pth V I) [sg U J]) S1 ∧ FC ptP S S1) := by
      intro n5 n4
      rw [if_neg (fun z => n5 z.2), if_neg n5, if_neg n4]
      refine ev_up (fun n => e_X12_patches_69) ?_
      unfold b_X12_patches_69
      refine ev_gg (by first | omega | (constructor <;> omega)) ?_
      refine ev_gc (q_pathOfNode (d := d - 1) (by omega) ha (by omega) hi L1 hV.1.1 hV.2.1 hI) (fun _ S2 q2 => ?_)
      obtain ⟨pa2, f2⟩ := q2
      refine ev_gc (q_ordered (d := d - 1) (K := 40) (t := 2) (V := U) (v := j) (by omega) rfl (by decide) hb (by omega) (by omega) (by decide) pa2 (lk_fr M1 f2 (fun j _ _ => by omega) (by omega)) hU.1.1 (Or.inr (by omega)) (lsq_fr s1 f2 (fun j _ _ => by omega) (by omega) (by omega) (by omega))) (fun _ S3 q3 => ?_)
      obtain ⟨l3, _, f3⟩ := q3
      rw [hj, vL_n] at l3
      exact ev_ret ⟨rfl, l3, fc_tr f01 (fc_tr (fc_mono f2 (fun c j z => by first | exact pt_or z | exact pt_pn z | exact pt_eq z)) (fc_mono f3 (fun c j z => by first | exact pt_or z | exact pt_pn z | exact pt_eq z)))⟩
    have p37 : ¬ (nk V I = 5 ∧ nk U J = 5) → Ev (fun n => f_X12_patches n d 37 S1 [a, i, b, j]) (fun x S1 => x = (if ¬ smF 13 (sg V I) (sg U J) = true ∧ nk V I = 5 ∧ nk U J = 5 then 1 else 0) ∧ LsQ 40 (if nk V I = 5 ∧ nk U J = 5 then os else if nk V I = 4 ∧ nk U J = 4 then btR V U (pth V I) I J os else addS os 21 (pth V I) [sg U J]) S1 ∧ FC ptP S S1) := by
      intro n5
      refine ev_up (fun n => e_X12_patches_37) ?_
      unfold b_X12_patches_37
      refine ev_gg (by first | omega | (constructor <;> omega)) ?_
      refine ev_gcr (q_kindL (d := d - 1) (by omega) ha (by omega) hi L1 hI) ?_
      refine ev_gg (by first | omega | (constructor <;> omega)) ?_
      refine ev_ite (fun z => p69 n5 (fun w => z w.1)) (fun z => ?_)
      refine ev_gcr (q_kindL (d := d - 1) (by omega) hb (by omega) hj M1 hJ) ?_
      refine ev_gg (by first | omega | (constructor <;> omega)) ?_
      refine ev_ite (fun z2 => p69 n5 (fun w => z2 w.2)) (fun z2 => ?_)
      rw [if_neg (fun z => n5 z.2), if_neg n5, if_pos ⟨by omega, by omega⟩]
      refine ev_gc (q_patchRows (d := d - 1) (by omega) ha hA hb hB hi hj L1 M1 hV hU hI hJ (by omega) s1) (fun _ S2 q2 => ?_)
      obtain ⟨l2, f2⟩ := q2
      exact ev_ret ⟨rfl, l2, fc_tr f01 f2⟩
    refine ev_gcr (q_kindL (d := d - 1) (by omega) ha (by omega) hi L1 hI) ?_
    refine ev_gg (by first | omega | (constructor <;> omega)) ?_
    refine ev_ite (fun z => p37 (fun w => z w.1)) (fun z => ?_)
    refine ev_gcr (q_kindL (d := d - 1) (by omega) hb (by omega) hj M1 hJ) ?_
    refine ev_gg (by first | omega | (constructor <;> omega)) ?_
    refine ev_ite (fun z2 => p37 (fun w => z2 w.2)) (fun z2 => ?_)
    have c5 : nk V I = 5 ∧ nk U J = 5 := ⟨by omega, by omega⟩
    rw [if_pos ⟨cs, c5⟩, if_pos c5]
    exact ev_ret ⟨rfl, s1, f01⟩
theorem q_removesKeys {a b i j : Int} {I J : Nat} (hd : 10 ≤ d) (ha : a = (A : Int)) (hA : A < 40) (hb : b = (B : Int)) (hB : B < 40) (hi : i = (I : Int)) (hj : j = (J : Int)) (hL : LK S A V) (hM : LK S B U) (hV : DOC V) (hU : DOC U) (hI : I < V.length) (hJ : J < U.length) (h5 : nk U J = 5) (h : LsQ 40 os S) : Ev (fun n => f_X12_removesKeys n d 0 S [a, i, b, j]) (fun _ S1 => LsQ 40 (rmF V U (pth V I) J (kids V I) os) S1 ∧ FC ptP S S1) := by
  subst ha hb hi hj
  have hV0 := hV.1.1
  have hU0 := hU.1.1
  have lv := hV.2.2.1
  have lu := hU.2.2.1
  have zV := pz_l hV0.2
  have kn := kids_le hV0.1.1 zV (g := I)
  have wn := hV0.1.1.1 I hI
  have inv : ∀ S1, FC ptP S S1 → LK S1 A V ∧ LK S1 B U := fun S1 f1 => ⟨lk_fr hL f1 (fun j _ _ => by omega) (by omega), lk_fr hM f1 (fun j _ _ => by omega) (by omega)⟩
  have lp : ∀ (K : List Nat) (e k : Nat) (S1 : GS) (os1 : Option (List (List ND))), ks V e (I + nz V I) = K → k + K.length = (kids V I).length → (∃ K1, kids V I = K1 ++ K) → LsQ 40 os1 S1 → FC ptP S S1 → e ≤ 200 → Ev (fun n => f_X12_removesKeys n d 8 S1 [(A : Int), (I : Int), (B : Int), (J : Int), (e : Int), (k : Int)]) (fun _ S2 => LsQ 40 (rmF V U (pth V I) J K os1) S2 ∧ FC ptP S S2) := by
    intro K
    induction K with
    | nil =>
      intro e k S1 os1 he hk hs hls f1 he2
      obtain ⟨i1, i2⟩ := inv S1 f1
      simp at hk
      refine ev_up (fun n => e_X12_removesKeys_8) ?_
      unfold b_X12_removesKeys_8
      refine ev_gg (by first | omega | (constructor <;> omega)) ?_
      refine ev_gcr (q_manyL (d := d - 1) (K := A) (I := I) (V := V) (by omega) rfl (by omega) rfl i1 hI) ?_
      refine ev_gg (by first | omega | (constructor <;> omega)) ?_
      refine ev_gg (by first | omega | (constructor <;> omega)) ?_
      refine ev_ite (fun _ => ?_) (fun z => by omega)
      exact ev_ret ⟨hls, f1⟩
    | cons c K ih =>
      intro e k S1 os1 he hk hs hls f1 he2
      obtain ⟨i1, i2⟩ := inv S1 f1
      obtain ⟨K1, hs⟩ := hs
      rw [List.length_cons] at hk
      have ee : e = c ∧ ks V (e + nz V e) (I + nz V I) = K := by
        by_cases z : e < I + nz V I
        · rw [ks_cons zV z] at he
          have := List.cons.inj he
          exact this
        · rw [ks_nil (by omega)] at he
          cases he
      obtain ⟨rfl, eK⟩ := ee
      have cm : e ∈ kids V I := by rw [hs]; exact List.mem_append_right _ List.mem_cons_self
      have ci := kid_in3 hV0.1.1 zV hI cm
      have kon := kid_own hV0.1.1 zV hs
      have pu := pth_up hV0 (i := e) (by omega) ci.2.1 kon.1
      have ev : vLk U (J : Int) (nq V e) = fdK U (nq V e) (kids U J) := by rw [vLk_n hJ, if_pos h5]
      have er : rmF V U (pth V I) J (e :: K) os1 = rmF V U (pth V I) J K (if vLk U (J : Int) (nq V e) = -1 then addS os1 25 (pth V I ++ stp V e) [] else os1) := rfl
      have vin : inr (fdK U (nq V e) (kids U J)) := by
        rw [← ev]
        exact vl_in hU0 lu
      rw [er, ev]
      refine ev_up (fun n => e_X12_removesKeys_8) ?_
      unfold b_X12_removesKeys_8
      refine ev_gg (by first | omega | (constructor <;> omega)) ?_
      refine ev_gcr (q_manyL (d := d - 1) (K := A) (I := I) (V := V) (by omega) rfl (by omega) rfl i1 hI) ?_
      refine ev_gg (by first | omega | (constructor <;> omega)) ?_
      refine ev_gg (by first | omega | (constructor <;> omega)) ?_
      refine ev_ite (fun z => by omega) (fun _ => ?_)
      refine ev_gcr (q_likeL (d := d - 1) (K := B) (G := J) (F := A) (J := e) (V := U) (W := V) (by omega) rfl (by omega) rfl rfl (by omega) rfl i2 hU0 hJ i1 ci.2.1) ?_
      refine ev_gg (vin) ?_
      refine ev_ite (fun z => ?_) (fun z => ?_)
      · rw [if_neg z]
        refine ev_gcr (q_endL (d := d - 1) (K := A) (I := e) (V := V) (by omega) rfl (by omega) rfl i1 ci.2.1) ?_
        refine ev_gv ?_
        rw [show (k : Int) + 1 = ((k + 1 : Nat) : Int) by omega]
        exact ih (e + nz V e) (k + 1) S1 os1 eK (by omega) ⟨K1 ++ [e], by rw [hs]; simp⟩ hls f1 (by omega)
      · rw [if_pos (by omega)]
        refine ev_gc (q_pathOfNode (d := d - 1) (K := A) (I := e) (V := V) (by omega) rfl (by omega) rfl i1 hV0 hV.2.1 ci.2.1) (fun _ S2 q2 => ?_)
        obtain ⟨pa2, f2⟩ := q2
        rw [pu] at pa2
        have f02 : FC ptP S S2 := fc_tr f1 (fc_mono f2 (fun c j z => by first | exact pt_or z | exact pt_pn z | exact pt_eq z))
        refine ev_gc (q_ordered (d := d - 1) (K := 40) (F := A) (t := 1) (V := V) (v := -1) (by omega) rfl (by decide) rfl (by omega) (by omega) (by decide) pa2 (inv S2 f02).1 hV0 (Or.inl rfl) (lsq_fr hls f2 (fun j _ _ => by omega) (by omega) (by omega) (by omega))) (fun _ S4 q4 => ?_)
        obtain ⟨l4, _, f4⟩ := q4
        have evl : vL V (-1) = [] := rfl
        rw [evl] at l4
        have f04 : FC ptP S S4 := fc_tr f02 (fc_mono f4 (fun c j z => by first | exact pt_or z | exact pt_pn z | exact pt_eq z))
        refine ev_gcr (q_endL (d := d - 1) (K := A) (I := e) (V := V) (by omega) rfl (by omega) rfl (inv S4 f04).1 ci.2.1) ?_
        refine ev_gv ?_
        rw [show (k : Int) + 1 = ((k + 1 : Nat) : Int) by omega]
        exact ih (e + nz V e) (k + 1) S4 _ eK (by omega) ⟨K1 ++ [e], by rw [hs]; simp⟩ l4 f04 (by omega)
  refine ev_up (fun n => e_X12_removesKeys_0) ?_
  unfold b_X12_removesKeys_0
  refine ev_gv ?_
  rw [show (I : Int) + 1 = ((I + 1 : Nat) : Int) by omega]
  exact lp (kids V I) (I + 1) 0 S os rfl (by omega) ⟨[], rfl⟩ h fc_rf (by omega)
theorem q_addsKeys {a b i j : Int} {I J : Nat} (hd : 10 ≤ d) (ha : a = (A : Int)) (hA : A < 40) (hb : b = (B : Int)) (hB : B < 40) (hi : i = (I : Int)) (hj : j = (J : Int)) (hL : LK S A V) (hM : LK S B U) (hV : DOC V) (hU : DOC U) (hI : I < V.length) (hJ : J < U.length) (h5 : nk V I = 5) (h : LsQ 40 os S) : Ev (fun n => f_X12_addsKeys n d 0 S [a, i, b, j]) (fun _ S1 => LsQ 40 (anF V U (pth V I) I (kids U J) os) S1 ∧ FC ptP S S1) := by
  subst ha hb hi hj
  have hV0 := hV.1.1
  have hU0 := hU.1.1
  have lv := hV.2.2.1
  have lu := hU.2.2.1
  have zU := pz_l hU0.2
  have kn := kids_le hU0.1.1 zU (g := J)
  have wn := hU0.1.1.1 J hJ
  have p325 := pth_325 hL hV0 hV.2.1 hI
  have inv : ∀ S1, FC ptP S S1 → LK S1 A V ∧ LK S1 B U := fun S1 f1 => ⟨lk_fr hL f1 (fun j _ _ => by omega) (by omega), lk_fr hM f1 (fun j _ _ => by omega) (by omega)⟩
  have lp : ∀ (K : List Nat) (e k : Nat) (S1 : GS) (os1 : Option (List (List ND))), ks U e (J + nz U J) = K → k + K.length = (kids U J).length → (∃ K1, kids U J = K1 ++ K) → LsQ 40 os1 S1 → FC ptP S S1 → e ≤ 200 → Ev (fun n => f_X12_addsKeys n d 9 S1 [(A : Int), (I : Int), (B : Int), (J : Int), (e : Int), (k : Int)]) (fun _ S2 => LsQ 40 (anF V U (pth V I) I K os1) S2 ∧ FC ptP S S2) := by
    intro K
    induction K with
    | nil =>
      intro e k S1 os1 he hk hs hls f1 he2
      obtain ⟨i1, i2⟩ := inv S1 f1
      simp at hk
      refine ev_up (fun n => e_X12_addsKeys_9) ?_
      unfold b_X12_addsKeys_9
      refine ev_gg (by first | omega | (constructor <;> omega)) ?_
      refine ev_gcr (q_manyL (d := d - 1) (K := B) (I := J) (V := U) (by omega) rfl (by omega) rfl i2 hJ) ?_
      refine ev_gg (by first | omega | (constructor <;> omega)) ?_
      refine ev_gg (by first | omega | (constructor <;> omega)) ?_
      refine ev_ite (fun _ => ?_) (fun z => by omega)
      exact ev_ret ⟨hls, f1⟩
    | cons c K ih =>
      intro e k S1 os1 he hk hs hls f1 he2
      obtain ⟨i1, i2⟩ := inv S1 f1
      obtain ⟨K1, hs⟩ := hs
      rw [List.length_cons] at hk
      have ee : e = c ∧ ks U (e + nz U e) (J + nz U J) = K := by
        by_cases z : e < J + nz U J
        · rw [ks_cons zU z] at he
          have := List.cons.inj he
          exact this
        · rw [ks_nil (by omega)] at he
          cases he
      obtain ⟨rfl, eK⟩ := ee
      have cm : e ∈ kids U J := by rw [hs]; exact List.mem_append_right _ List.mem_cons_self
      have ci := kid_in3 hU0.1.1 zU hJ cm
      have ev : vLk V (I : Int) (nq U e) = fdK V (nq U e) (kids V I) := by rw [vLk_n hI, if_pos h5]
      have er : anF V U (pth V I) I (e :: K) os1 = anF V U (pth V I) I K (if vLk V (I : Int) (nq U e) = -1 then addS os1 26 (pth V I ++ stp U e) [sg U e] else os1) := rfl
      have vin : inr (fdK V (nq U e) (kids V I)) := by
        rw [← ev]
        exact vl_in hV0 lv
      rw [er, ev]
      refine ev_up (fun n => e_X12_addsKeys_9) ?_
      unfold b_X12_addsKeys_9
      refine ev_gg (by first | omega | (constructor <;> omega)) ?_
      refine ev_gcr (q_manyL (d := d - 1) (K := B) (I := J) (V := U) (by omega) rfl (by omega) rfl i2 hJ) ?_
      refine ev_gg (by first | omega | (constructor <;> omega)) ?_
      refine ev_gg (by first | omega | (constructor <;> omega)) ?_
      refine ev_ite (fun z => by omega) (fun _ => ?_)
      refine ev_gcr (q_likeL (d := d - 1) (K := A) (G := I) (F := B) (J := e) (V := V) (W := U) (by omega) rfl (by omega) rfl rfl (by omega) rfl i1 hV0 hI i2 ci.2.1) ?_
      refine ev_gg (vin) ?_
      refine ev_ite (fun z => ?_) (fun z => ?_)
      · rw [if_neg z]
        refine ev_gcr (q_endL (d := d - 1) (K := B) (I := e) (V := U) (by omega) rfl (by omega) rfl i2 ci.2.1) ?_
        refine ev_gv ?_
        rw [show (k : Int) + 1 = ((k + 1 : Nat) : Int) by omega]
        exact ih (e + nz U e) (k + 1) S1 os1 eK (by omega) ⟨K1 ++ [e], by rw [hs]; simp⟩ hls f1 (by omega)
      · rw [if_pos (by omega)]
        refine ev_gc (q_pathOfNode (d := d - 1) (K := A) (I := I) (V := V) (by omega) rfl (by omega) rfl i1 hV0 hV.2.1 hI) (fun _ S2 q2 => ?_)
        obtain ⟨pa2, f2⟩ := q2
        have f02 : FC ptP S S2 := fc_tr f1 (fc_mono f2 (fun c j z => by first | exact pt_or z | exact pt_pn z | exact pt_eq z))
        refine ev_gc (q_addsStep (d := d - 1) (K := B) (I := e) (V := U) (by omega) rfl (by omega) rfl (inv S2 f02).2 hU0 (by omega) ci.2.1 pa2 (by omega)) (fun _ S3 q3 => ?_)
        obtain ⟨pa3, f3⟩ := q3
        have f03 : FC ptP S S3 := fc_tr f02 (fc_mono f3 (fun c j z => by first | exact pt_or z | exact pt_pn z | exact pt_eq z))
        refine ev_gc (q_ordered (d := d - 1) (K := 40) (F := B) (t := 0) (V := U) (v := (e : Int)) (by omega) rfl (by decide) rfl (by omega) (by omega) (by decide) pa3 (inv S3 f03).2 hU0 (Or.inr (by omega)) (lsq_fr (lsq_fr hls f2 (fun j _ _ => by omega) (by omega) (by omega) (by omega)) f3 (fun j _ _ => by omega) (by omega) (by omega) (by omega))) (fun _ S4 q4 => ?_)
        obtain ⟨l4, _, f4⟩ := q4
        rw [vL_n] at l4
        have f04 : FC ptP S S4 := fc_tr f03 (fc_mono f4 (fun c j z => by first | exact pt_or z | exact pt_pn z | exact pt_eq z))
        refine ev_gcr (q_endL (d := d - 1) (K := B) (I := e) (V := U) (by omega) rfl (by omega) rfl (inv S4 f04).2 ci.2.1) ?_
        refine ev_gv ?_
        rw [show (k : Int) + 1 = ((k + 1 : Nat) : Int) by omega]
        exact ih (e + nz U e) (k + 1) S4 _ eK (by omega) ⟨K1 ++ [e], by rw [hs]; simp⟩ l4 f04 (by omega)
  refine ev_up (fun n => e_X12_addsKeys_0) ?_
  unfold b_X12_addsKeys_0
  refine ev_gv ?_
  rw [show (J : Int) + 1 = ((J + 1 : Nat) : Int) by omega]
  exact lp (kids U J) (J + 1) 0 S os rfl (by omega) ⟨[], rfl⟩ h fc_rf (by omega)
end RPP
