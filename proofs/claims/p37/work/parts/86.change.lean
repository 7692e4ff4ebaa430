/-! TREES: copies, replacing, inserting, removing, whether it is a DOCUMENT -/
def TO (c : Nat) (W : TW) (S : GS) : Prop := TV S c W.1 ∧ S.2.1 c 8 = W.2
theorem to_fr {S S1 : GS} {c : Nat} {W : TW} {M : Nat → Prop} (h : TO c W S) (hf : Fr M S S1) (hM : ∀ k, c ≤ k → k < c + 8 → ¬ M k) : TO c W S1 := ⟨tv_fr h.1 hf hM, by rw [(hf c (hM c (by omega) (by omega))).2.1]; exact h.2⟩
theorem to_ty {S S0 : GS} {c : Nat} {W : TW} (h : TY c S0 W S) : TO c W S := ⟨h.1, h.2.1⟩
theorem ty_to {S : GS} {c : Nat} {W : TW} (h : TO c W S) (hG : Good S) : TY c S W S := ⟨h.1, h.2, fr_rf, hG⟩
def cpW (U : List ND) (o : Bool) (f : Int) : TW := cKy (apW ([], false) U o f) 0
/-- a VALUE of another tree takes the place of one, which leaves its KEY there -/
def rpl (V : List ND) (i : Nat) (U : List ND) (j : Nat) : List ND := (spl V i (i + 1) (nz V i - 1) (seg U (j + 1) (nz U j - 1))).set i (nk U j, ((nz V i : Int) + (((nz U j - 1 : Nat) : Int) - ((nz V i - 1 : Nat) : Int))).toNat, np U j, nt U j, nq V i)
section CHG
variable {S S0 : GS} {c d : Nat} {W : TW}
theorem szI_nat {V : List ND} {i : Nat} (h : i < V.length) : szI V (i : Int) = (nz V i : Int) := by
  unfold szI
  rw [if_pos (by omega), Int.toNat_natCast]
theorem ty_copyOf {c2 : Nat} {U : List ND} {o : Bool} {f : Int} (hc : gT c) (hc2 : gT c2) (hne : c2 ≠ c) (hd : 2 ≤ d) (hv : TV S c2 U) (ho : S.2.1 c2 8 = o) (hf : inr f) (hin : f + szI U f ≤ U.length ∨ szI U f < 1) (hG : Good S) : Ev (fun n => f_X10_copyOf n d 0 S [((c : Nat) : Int), ((c2 : Nat) : Int), f]) (fun _ S1 => TY c S (cpW U o f) S1) := by
  refine ev_up (fun n => e_X10_copyOf_0) ?_
  unfold b_X10_copyOf_0
  repeat' (first
    | with_reducible refine ev_gv ?_
    | with_reducible refine ev_gg ?_ ?_
    | with_reducible refine ev_ite (fun _ => ?_) (fun _ => ?_)
    | omega
    | assumption)
  refine ev_gc (ty_clear hc hG) (fun _ S1 h1 => ?_)
  have hv1 := tv_ty hc hc2 hne hv h1
  have ho1 : S1.2.1 c2 8 = o := by rw [(h1.2.2.1 c2 (by unfold trM; omega)).2.1]; exact ho
  refine ev_gc (ty_append hc hc2 hne (by omega) hv1 ho1 hf hin h1) (fun x S2 h2 => ?_)
  refine ev_gc (ty_clearKey hc h2.2 (by decide)) (fun _ S3 h3 => ?_)
  exact ev_ret h3
theorem t_isDocument (hc : gT c) (hd : 16 ≤ d) (h : TO c W S) (hw : W.2 = false → nz W.1 0 = W.1.length → WF W.1) : Rd (fun n => f_X10_isDocument n d 0 S [((c : Nat) : Int)]) (if W.2 = false ∧ 1 ≤ W.1.length ∧ nz W.1 0 = W.1.length ∧ dpF 13 W.1 0 ≤ 12 then 1 else 0) S := by
  obtain ⟨hv, ho⟩ := h
  have h1 := tv_n hv
  have h2 := tv_l hv
  have hb := bi_r (S.2.1 c 8)
  by_cases e1 : W.2 = false
  · have hb0 : bi (S.2.1 c 8) = 0 := by rw [ho, e1]; rfl
    by_cases e2 : 1 ≤ W.1.length
    · have es : szI W.1 0 = (nz W.1 0 : Int) := szI_nat (i := 0) (by omega)
      have r : nz W.1 0 ≤ 100 := (tv_r hv (i := 0) (by omega)).2.2.2.1
      by_cases e3 : nz W.1 0 = W.1.length
      · have kd := t_depth hc hv (hw e1 e3) 13 0 (d - 1) (Nat.le_refl _) (by omega) (by omega)
        rw [show (13 : Int) - ((13 : Nat) : Int) = 0 by decide, show ((0 : Nat) : Int) = 0 by rfl] at kd
        have rd := dpF_r W.1 13 0
        by_cases e4 : dpF 13 W.1 0 ≤ 12
        · rw [if_pos ⟨e1, e2, e3, e4⟩]
          refine ev_up (fun n => e_X10_isDocument_0) ?_
          unfold b_X10_isDocument_0
          repeat' (first
            | with_reducible refine ev_gv ?_
            | with_reducible refine ev_gg ?_ ?_
            | with_reducible refine ev_ite (fun _ => ?_) (fun _ => ?_)
            | refine ev_gcr (rd_as (t_size hc hv (by decide)) es) ?_
            | refine ev_gcr (kd) ?_
            | omega
            | assumption)
          exact ev_ret ⟨rfl, rfl⟩
        · rw [if_neg (fun q => e4 q.2.2.2)]
          refine ev_up (fun n => e_X10_isDocument_0) ?_
          unfold b_X10_isDocument_0
          repeat' (first
            | with_reducible refine ev_gv ?_
            | with_reducible refine ev_gg ?_ ?_
            | with_reducible refine ev_ite (fun _ => ?_) (fun _ => ?_)
            | refine ev_gcr (rd_as (t_size hc hv (by decide)) es) ?_
            | refine ev_gcr (kd) ?_
            | omega
            | assumption)
          exact ev_ret ⟨rfl, rfl⟩
      · rw [if_neg (fun q => e3 q.2.2.1)]
        refine ev_up (fun n => e_X10_isDocument_0) ?_
        unfold b_X10_isDocument_0
        repeat' (first
          | with_reducible refine ev_gv ?_
          | with_reducible refine ev_gg ?_ ?_
          | with_reducible refine ev_ite (fun _ => ?_) (fun _ => ?_)
          | refine ev_gcr (rd_as (t_size hc hv (by decide)) es) ?_
          | omega
          | assumption)
        exact ev_ret ⟨rfl, rfl⟩
    · rw [if_neg (fun q => e2 q.2.1)]
      refine ev_up (fun n => e_X10_isDocument_0) ?_
      unfold b_X10_isDocument_0
      repeat' (first
        | with_reducible refine ev_gv ?_
        | with_reducible refine ev_gg ?_ ?_
        | with_reducible refine ev_ite (fun _ => ?_) (fun _ => ?_)
        | omega
        | assumption)
      exact ev_ret ⟨rfl, rfl⟩
  · rw [if_neg (fun q => e1 q.1)]
    have hb1 : bi (S.2.1 c 8) = 1 := by
      rw [ho]
      cases q : W.2
      · exact absurd q e1
      · rfl
    refine ev_up (fun n => e_X10_isDocument_0) ?_
    unfold b_X10_isDocument_0
    repeat' (first
      | with_reducible refine ev_gv ?_
      | with_reducible refine ev_gg ?_ ?_
      | with_reducible refine ev_ite (fun _ => ?_) (fun _ => ?_)
      | omega
      | assumption)
    exact ev_ret ⟨rfl, rfl⟩
theorem ty_insert {c2 o a j : Nat} {U : List ND} {ob : Bool} (hc : gT c) (hc2 : gT c2) (hne : c2 ≠ c) (hd : 2 ≤ d) (hv : TV S c2 U) (hob : S.2.1 c2 8 = ob) (hj : j < U.length) (hjz : j + nz U j ≤ U.length) (hao : o < a) (hag : a ≤ W.1.length) (hsz : ∀ p, p ≤ o → o < p + nz W.1 p → p + nz W.1 p ≤ W.1.length) (h : TY c S0 W S) : Ev (fun k => f_X10_insert k d 0 S [((c : Nat) : Int), (o : Int), (a : Int), ((c2 : Nat) : Int), (j : Int)]) (fun _ S1 => if ob = false ∧ W.1.length + nz U j ≤ 100 then TY c S0 (spl W.1 o a 0 (seg U j (nz U j)), W.2) S1 else TY c S0 (W.1, true) S1) := by
  have h3 := tv_l hv
  have hz := pz_of h.1.2.2.2
  have k := ty_splice (d := d - 1) (a := a) (g := 0) hc hc2 (Or.inr ⟨hne, hjz⟩) (by omega) hv hob (by omega) hao (by omega) (by omega) (fun p hp hq => by have := hsz p hp hq; have := hz p; omega) h
  refine ev_up (fun n => e_X10_insert_0) ?_
  unfold b_X10_insert_0
  repeat' (first
    | with_reducible refine ev_gv ?_
    | with_reducible refine ev_gg ?_ ?_
    | with_reducible refine ev_ite (fun _ => ?_) (fun _ => ?_)
    | refine ev_gcr (rd_as (t_size hc2 hv (i := (j : Int)) (by constructor <;> omega)) (szI_nat hj)) ?_
    | omega
    | assumption)
  refine ev_gc k (fun x S1 q => ev_ret ?_)
  by_cases e : ob = false ∧ W.1.length + nz U j ≤ 100
  · rw [if_pos ⟨e.1, by omega⟩] at q
    rw [if_pos e]
    exact q.2
  · rw [if_neg (fun z => e ⟨z.1, by omega⟩)] at q
    rw [if_neg e]
    exact q.2
theorem ty_remove {i o : Nat} (hc : gT c) (hd : 2 ≤ d) (hw : WF W.1) (hi : i < W.1.length) (ho : owI W.1 i = (o : Int)) (hW : W.2 = false) (hsz : ∀ p, p ≤ o → o < p + nz W.1 p → i + nz W.1 i ≤ p + nz W.1 p) (h : TY c S0 W S) : Ev (fun k => f_X10_remove k d 0 S [((c : Nat) : Int), (i : Int)]) (fun _ S1 => TY c S0 (spl W.1 o i (nz W.1 i) [], W.2) S1) := by
  have h2 := tv_l h.1
  have r := ow_r W.1 i i
  have hr : owI W.1 i = ow W.1 i i := rfl
  have w1 := hw.1 i hi
  have k := ty_splice (d := d - 1) (o := o) (a := i) (g := nz W.1 i) (f := i) (n := 0) hc hc (Or.inl rfl) (by omega) h.1 h.2.1 (by omega) (by omega) w1 (by omega) (fun p hp hq => by have := hsz p hp hq; have := hw.1 p (by omega); omega) h
  have e0 : seg W.1 i 0 = [] := by unfold seg; simp
  simp only [e0, if_pos (show W.2 = false ∧ W.1.length + 0 ≤ 100 + nz W.1 i from ⟨hW, by omega⟩)] at k
  refine ev_up (fun n => e_X10_remove_0) ?_
  unfold b_X10_remove_0
  repeat' (first
    | with_reducible refine ev_gv ?_
    | with_reducible refine ev_gg ?_ ?_
    | with_reducible refine ev_ite (fun _ => ?_) (fun _ => ?_)
    | refine ev_gcr (rd_as (t_ownerOf hc h.1 (by omega) hi) ho) ?_
    | refine ev_gcr (rd_as (t_size hc h.1 (i := (i : Int)) (by constructor <;> omega)) (szI_nat hi)) ?_
    | omega
    | assumption)
  refine ev_gc k (fun x S1 q => ev_ret q.2)
theorem spl_root {V : List ND} {i n : Nat} {sg : List ND} (hi : i < V.length) (hn : sg.length = n) (z : 1 ≤ nz V i) : (spl V i (i + 1) (nz V i - 1) sg).getD i nd0 = wZ (V.getD i nd0) ((nz V i : Int) + ((n : Int) - ((nz V i - 1 : Nat) : Int))).toNat := by
  have htk : (V.take (i + 1)).length = i + 1 := by rw [List.length_take]; omega
  have e : (V.take (i + 1) ++ sg ++ V.drop (i + 1 + (nz V i - 1))).getD i nd0 = V.getD i nd0 := by
    rw [getD_append, List.length_append, htk, if_pos (by omega), getD_append, htk, if_pos (by omega), List.getD_eq_getElem?_getD, List.getD_eq_getElem?_getD, List.getElem?_take, if_pos (by omega)]
  have e2 : nz (V.take (i + 1) ++ sg ++ V.drop (i + 1 + (nz V i - 1))) i = nz V i := by
    show ((V.take (i + 1) ++ sg ++ V.drop (i + 1 + (nz V i - 1))).getD i nd0).2.1 = (V.getD i nd0).2.1
    rw [e]
  unfold spl adjS
  rw [adjP_at (by rw [List.length_append, List.length_append, htk]; omega), e, e2, if_pos (by omega), hn]
theorem ty_replace0 {c2 i j : Nat} {U : List ND} {ob : Bool} (hc : gT c) (hc2 : gT c2) (hne : c2 ≠ c) (hd : 2 ≤ d) (hv : TV S c2 U) (hob : S.2.1 c2 8 = ob) (hi : i < W.1.length) (hj : j < U.length) (hjz : j + nz U j ≤ U.length) (hsz : ∀ p, p ≤ i → i < p + nz W.1 p → i + nz W.1 i ≤ p + nz W.1 p ∧ p + nz W.1 p ≤ W.1.length) (h : TY c S W S) : Ev (fun k => f_X10_replace k d 0 S [((c : Nat) : Int), (i : Int), ((c2 : Nat) : Int), (j : Int)]) (fun _ S1 => if ob = false ∧ W.1.length + nz U j ≤ 100 + nz W.1 i then TY c S (rpl W.1 i U j, W.2) S1 else TY c S (W.1, true) S1) := by
  have h2 := tv_l h.1
  have h3 := tv_l hv
  have hz := pz_of h.1.2.2.2
  have hzU := pz_of hv.2.2.2
  have z1 := hz i
  have z2 := hzU j
  have s1 := hsz i (Nat.le_refl _) (by omega)
  have k := ty_splice (d := d - 1) (o := i) (a := i + 1) (g := nz W.1 i - 1) (f := j + 1) (n := nz U j - 1) hc hc2 (Or.inr ⟨hne, by omega⟩) (by omega) hv hob (by omega) (by omega) (by omega) (by omega) (fun p hp hq => by have := hsz p hp hq; omega) h
  rw [show ((i + 1 : Nat) : Int) = (i : Int) + 1 by omega, show ((j + 1 : Nat) : Int) = (j : Int) + 1 by omega, show ((nz W.1 i - 1 : Nat) : Int) = (nz W.1 i : Int) - 1 by omega, show ((nz U j - 1 : Nat) : Int) = (nz U j : Int) - 1 by omega] at k
  refine ev_up (fun n => e_X10_replace_0) ?_
  unfold b_X10_replace_0
  repeat' (first
    | with_reducible refine ev_gv ?_
    | with_reducible refine ev_gg ?_ ?_
    | with_reducible refine ev_ite (fun _ => ?_) (fun _ => ?_)
    | refine ev_gcr (rd_as (t_has hc h.1 (i := (i : Int)) (by constructor <;> omega)) (if_pos (by omega))) ?_
    | refine ev_gcr (rd_as (t_has hc2 hv (i := (j : Int)) (by constructor <;> omega)) (if_pos (by omega))) ?_
    | refine ev_gcr (rd_as (t_size hc h.1 (i := (i : Int)) (by constructor <;> omega)) (szI_nat hi)) ?_
    | refine ev_gcr (rd_as (t_size hc2 hv (i := (j : Int)) (by constructor <;> omega)) (szI_nat hj)) ?_
    | omega
    | assumption)
  refine ev_gc k (fun x S1 q => ?_)
  by_cases e : ob = false ∧ W.1.length + nz U j ≤ 100 + nz W.1 i
  · rw [if_pos ⟨e.1, by omega⟩] at q
    simp only [if_pos e]
    obtain ⟨rfl, q⟩ := q
    have hv1 : TV S1 c2 U := tv_fr hv q.2.2.1 (fun k h1 h2 => by unfold trM; omega)
    have m1 : S1.1 (c2 + 1) (j : Int).toNat = nk U j := tv_k hv1 hj
    have m2 : S1.1 (c2 + 3) (j : Int).toNat = np U j := tv_p hv1 hj
    have m3 : S1.1 (c2 + 4) (j : Int).toNat = ((nt U j).length : Int) := tv_t hv1 hj
    have m4 := fun t ht => tv_ts hv1 (i := j) (j := t) hj ht
    have hr := hv.2.2.2 _ (nd_mem hj)
    have hrV := h.1.2.2.2 _ (nd_mem hi)
    have ra := (tv_all hv (i := (j : Int)) (by omega) (by omega)).2.2.2.2.2
    simp only [Int.toNat_natCast] at ra
    have hsl := seg_len (U := U) (f := j + 1) (n := nz U j - 1) (by omega)
    have root := spl_root (V := W.1) (i := i) (sg := seg U (j + 1) (nz U j - 1)) hi hsl z1
    have hli : i < (spl W.1 i (i + 1) (nz W.1 i - 1) (seg U (j + 1) (nz U j - 1))).length := by
      unfold spl adjS
      rw [adjP_len, List.length_append, List.length_append, List.length_take, List.length_drop, hsl]
      omega
    obtain ⟨n1, n2, n3, n4, n5, n6, n7⟩ := q.1.2.2.1 i hli
    rw [root] at n1 n2 n3 n4 n5 n6 n7
    have rr := q.1.2.2.2 _ (nd_mem hli)
    rw [root] at rr
    have bnd : ∀ k, 0 ≤ (gI (gI (gI S1 (c + 1) (i : Int).toNat (nk U j)) (c + 3) (i : Int).toNat (np U j)) (c + 4) (i : Int).toNat ((nt U j).length : Int)).1 (c2 + 5) k ∧ (gI (gI (gI S1 (c + 1) (i : Int).toNat (nk U j)) (c + 3) (i : Int).toNat (np U j)) (c + 4) (i : Int).toNat ((nt U j).length : Int)).1 (c2 + 5) k < 65536 := by
      intro k
      rw [gI_c (by omega), gI_c (by omega), gI_c (by omega)]
      exact q.2.2.2.2.1 _ _ (by unfold isC; omega)
    have e39 : (gI S1 (c + 1) (i : Int).toNat (nk U j)).1 (c2 + 3) (j : Int).toNat = np U j := by rw [gI_c (by omega)]; exact m2
    have e43 : (gI (gI S1 (c + 1) (i : Int).toNat (nk U j)) (c + 3) (i : Int).toNat (np U j)).1 (c2 + 4) (j : Int).toNat = ((nt U j).length : Int) := by rw [gI_c (by omega), gI_c (by omega)]; exact m3
    refine ev_gg (by decide) ?_
    refine ev_ite (fun z => by omega) (fun _ => ?_)
    refine ev_gg (by omega) ?_
    rw [m1]
    refine ev_gv ?_
    refine ev_gg (by omega) ?_
    refine ev_gv ?_
    rw [e39]
    refine ev_gv ?_
    refine ev_gv ?_
    rw [e43]
    refine ev_gv ?_
    refine ev_gv ?_
    refine ev_gv ?_
    refine ev_gv ?_
    refine ev_gg (by omega) ?_
    refine ev_gg (fun t ht => bnd _) ?_
    refine ev_gv ?_
    refine ev_ret ?_
    have e40 : ((i : Int) * 40).toNat = 40 * i := by omega
    have e40j : ((j : Int) * 40).toNat = 40 * j := by omega
    have e40n : (40 : Int).toNat = 40 := rfl
    refine ⟨tv_upd q.1 hli ?_ (fun t ht hti => ?_) ?_ ?_, ?_, ?_, ?_⟩
    · rw [gCp_n (by omega), gI_c (by omega), gI_c (by omega), gI_c (by omega)]
    · refine ⟨?_, ?_, ?_, ?_, fun s hs => ?_, ?_, fun s hs => ?_⟩
      · rw [gCp_n (by omega), gI_c (by omega), gI_c (by omega), gI_k (by omega)]
      · rw [gCp_n (by omega), gI_c (by omega), gI_c (by omega), gI_c (by omega)]
      · rw [gCp_n (by omega), gI_c (by omega), gI_k (by omega), gI_c (by omega)]
      · rw [gCp_n (by omega), gI_k (by omega), gI_c (by omega), gI_c (by omega)]
      · rw [gCp_1, if_neg (by omega), gI_c (by omega), gI_c (by omega), gI_c (by omega)]
      · rw [gCp_n (by omega), gI_c (by omega), gI_c (by omega), gI_c (by omega)]
      · rw [gCp_n (by omega), gI_c (by omega), gI_c (by omega), gI_c (by omega)]
    · refine ⟨?_, ?_, ?_, ?_, fun s hs => ?_, ?_, fun s hs => ?_⟩
      · rw [gCp_n (by omega), gI_c (by omega), gI_c (by omega), show (i : Int).toNat = i from rfl, gI_a]
      · rw [gCp_n (by omega), gI_c (by omega), gI_c (by omega), gI_c (by omega)]
        exact n2
      · rw [gCp_n (by omega), gI_c (by omega), show (i : Int).toNat = i from rfl, gI_a]
      · rw [gCp_n (by omega), show (i : Int).toNat = i from rfl, gI_a]
      · have hs' : s < (nt U j).length := hs
        rw [gCp_1, if_pos (by omega), gI_c (by omega), gI_c (by omega), gI_c (by omega), show ((j : Int) * 40).toNat + (40 * i + s - ((i : Int) * 40).toNat) = 40 * j + s by omega]
        exact m4 s hs'
      · rw [gCp_n (by omega), gI_c (by omega), gI_c (by omega), gI_c (by omega)]
        exact n6
      · rw [gCp_n (by omega), gI_c (by omega), gI_c (by omega), gI_c (by omega)]
        exact n7 s hs
    · exact ⟨hr.1, hr.2.1, rr.2.2.1, rr.2.2.2.1, hr.2.2.2.2.1, hr.2.2.2.2.2.1, hr.2.2.2.2.2.2.1, hr.2.2.2.2.2.2.2.1, hrV.2.2.2.2.2.2.2.2.1, hrV.2.2.2.2.2.2.2.2.2⟩
    · exact q.2.1
    · exact fr_tr q.2.2.1 (fr_tr (fr_gI (trM0 (by decide))) (fr_tr (fr_gI (trM0 (by decide))) (fr_tr (fr_gI (trM0 (by decide))) (fr_gCp (trM0 (by decide))))))
    · exact good_gCp (good_gI (good_gI (good_gI q.2.2.2 (by constructor <;> omega) (fun q => absurd q (not_isC hc (by decide)))) (by constructor <;> omega) (fun q => absurd q (not_isC hc (by decide)))) (by constructor <;> omega) (fun q => absurd q (not_isC hc (by decide)))) (by omega) (by omega) (fun _ => by unfold isC; omega)
  · rw [if_neg (fun z => e ⟨z.1, by omega⟩)] at q
    simp only [if_neg e]
    obtain ⟨rfl, q⟩ := q
    repeat' (first
      | with_reducible refine ev_gv ?_
      | with_reducible refine ev_gg ?_ ?_
      | with_reducible refine ev_ite (fun _ => ?_) (fun _ => ?_)
      | omega
      | assumption)
    exact ev_ret q
theorem ty_replace {c2 i j : Nat} {U : List ND} {ob : Bool} (hc : gT c) (hc2 : gT c2) (hne : c2 ≠ c) (hd : 2 ≤ d) (hv : TV S c2 U) (hob : S.2.1 c2 8 = ob) (hi : i < W.1.length) (hj : j < U.length) (hjz : j + nz U j ≤ U.length) (hsz : ∀ p, p ≤ i → i < p + nz W.1 p → i + nz W.1 i ≤ p + nz W.1 p ∧ p + nz W.1 p ≤ W.1.length) (h : TY c S0 W S) : Ev (fun k => f_X10_replace k d 0 S [((c : Nat) : Int), (i : Int), ((c2 : Nat) : Int), (j : Int)]) (fun _ S1 => if ob = false ∧ W.1.length + nz U j ≤ 100 + nz W.1 i then TY c S0 (rpl W.1 i U j, W.2) S1 else TY c S0 (W.1, true) S1) := by
  refine ev_mono (ty_replace0 hc hc2 hne hd hv hob hi hj hjz hsz (ty_rf h.1 h.2.1 h.2.2.2)) (fun x S1 q => ?_)
  split at q
  · rename_i e
    rw [if_pos e]
    exact ty_since h q
  · rename_i e
    rw [if_neg e]
    exact ty_since h q
/-- the last VALUE takes the place of an earlier one -/
theorem t_replaceByLast {c3 i k : Nat} (hc : gT c) (hc3 : gT c3) (hne : c3 ≠ c) (hd : 3 ≤ d) (h : TO c W S) (hG : Good S) (hW : W.2 = false) (hik : i < k) (hk : k < W.1.length) (hkz : k + nz W.1 k = W.1.length) (hsz : ∀ p, p ≤ i → i < p + nz W.1 p → i + nz W.1 i ≤ p + nz W.1 p ∧ p + nz W.1 p ≤ k) : Ev (fun n => f_X10_replaceByLast n d 0 S [((c : Nat) : Int), (i : Int), (k : Int), ((c3 : Nat) : Int)]) (fun _ S1 => TO c (rpl (W.1.take k) i (cpW W.1 false (k : Int)).1 0, false) S1 ∧ Fr (fun x => trM c x ∨ trM c3 x) S S1 ∧ Good S1 ∧ TO c3 (cpW W.1 false (k : Int)) S1) := by
  have l1 := tv_l h.1
  have hz := pz_of h.1.2.2.2
  have zk := hz k
  have sz := szI_nat hk
  have htk : (W.1.take k).length = k := by rw [List.length_take]; omega
  have ecp : cpW W.1 false (k : Int) = ((seg W.1 k (nz W.1 k)).set 0 (wQ ((seg W.1 k (nz W.1 k)).getD 0 nd0) []), false) := by
    unfold cpW apW
    rw [sz, if_pos ⟨rfl, by omega, by simp; omega⟩]
    have hsl := seg_len (U := W.1) (f := k) (n := nz W.1 k) (by omega)
    unfold cKy
    simp only [Int.toNat_natCast, List.nil_append]
    rw [if_pos (by rw [hsl]; omega)]
    rfl
  have hsl := seg_len (U := W.1) (f := k) (n := nz W.1 k) (by omega)
  refine ev_up (fun n => e_X10_replaceByLast_0) ?_
  unfold b_X10_replaceByLast_0
  repeat' (first
    | with_reducible refine ev_gv ?_
    | with_reducible refine ev_gg ?_ ?_
    | with_reducible refine ev_ite (fun _ => ?_) (fun _ => ?_)
    | omega
    | assumption)
  refine ev_gc (ty_copyOf hc3 hc (fun q => hne q.symm) (by omega) h.1 (h.2.trans hW) (by constructor <;> omega) (by omega) hG) (fun _ S1 q1 => ?_)
  repeat' (first
    | with_reducible refine ev_gv ?_
    | with_reducible refine ev_gg ?_ ?_
    | with_reducible refine ev_ite (fun _ => ?_) (fun _ => ?_)
    | omega
    | assumption)
  have hT : TO c W S1 := to_fr h q1.2.2.1 (fun k h1 h2 => by unfold trM; omega)
  refine ev_gc (ty_dropFrom hc (by omega) (ty_to hT q1.2.2.2) (by constructor <;> omega)) (fun _ S2 q2 => ?_)
  have ed : dro W (k : Int) = (W.1.take k, W.2) := by
    unfold dro
    rw [if_pos (by omega), Int.toNat_natCast]
  rw [ed] at q2
  have t3 : TO c3 (cpW W.1 false (k : Int)) S2 := to_fr (to_ty q1) q2.2.2.1 (fun k h1 h2 => by unfold trM; omega)
  have ez : ∀ p, p < k → nz (W.1.take k) p = nz W.1 p := by
    intro p hp
    unfold nz
    rw [List.getD_eq_getElem?_getD, List.getD_eq_getElem?_getD, List.getElem?_take, if_pos hp]
  have e0 : nz (cpW W.1 false (k : Int)).1 0 = nz W.1 k := by
    rw [ecp]
    show (((seg W.1 k (nz W.1 k)).set 0 (wQ ((seg W.1 k (nz W.1 k)).getD 0 nd0) [])).getD 0 nd0).2.1 = (W.1.getD k nd0).2.1
    rw [getD_set_s (by rw [hsl]; omega), seg_at (by omega)]
    rfl
  have el : (cpW W.1 false (k : Int)).1.length = nz W.1 k := by
    rw [ecp, List.length_set, hsl]
  have kr := ty_replace (d := d - 1) (i := i) (j := 0) (W := (W.1.take k, W.2)) hc hc3 hne (by omega) t3.1 t3.2 (by show i < (W.1.take k).length; omega) (by omega) (by omega) (fun p hp hq => by
    simp only [ez p (by omega), ez i hik, htk] at hq ⊢
    exact hsz p hp hq) q2
  refine ev_gc kr (fun _ S3 q3 => ?_)
  have eo : (cpW W.1 false (k : Int)).2 = false := by rw [ecp]
  have ei := ez i hik
  have zi := hz i
  rw [if_pos ⟨eo, by rw [e0, ei, htk]; omega⟩] at q3
  refine ev_ret ⟨?_, ?_, q3.2.2.2, ?_⟩
  · have := to_ty q3
    rw [hW] at this
    exact this
  · exact fr_tr (fr_mono q1.2.2.1 (fun _ z => Or.inr z)) (fr_mono q3.2.2.1 (fun _ z => Or.inl z))
  · exact to_fr (to_ty q1) q3.2.2.1 (fun k h1 h2 => by unfold trM; omega)
end CHG
