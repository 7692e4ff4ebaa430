/-! THE CLASS: columns -/
theorem fdK_no {V : List ND} {q : List Int} : ∀ (K : List Nat), (fdK V q K = -1 ↔ ∀ k ∈ K, nq V k ≠ q)
  | [] => ⟨(fun _ k hk => by cases hk), fun _ => rfl⟩
  | k :: K => by
    have e : fdK V q (k :: K) = if nq V k = q then (k : Int) else fdK V q K := rfl
    rw [e]
    by_cases c : nq V k = q
    · rw [if_pos c]
      exact ⟨fun z => by omega, fun z => absurd c (z k List.mem_cons_self)⟩
    · rw [if_neg c, fdK_no K]
      exact ⟨fun z x hx => by
        rcases List.mem_cons.mp hx with y | y
        · rw [y]; exact c
        · exact z x y, fun z x hx => z x (List.mem_cons_of_mem _ hx)⟩
theorem fk_c {V : List ND} {D K : List Nat} {c : Nat} : fkF V D (c :: K) = if nwK V D (nq V c) then c :: fkF V D K else fkF V D K := rfl
theorem fk_mem {V : List ND} {D : List Nat} {c : Nat} : ∀ (K : List Nat), (c ∈ fkF V D K ↔ c ∈ K ∧ nwK V D (nq V c))
  | [] => ⟨(fun z => by cases z), fun z => by cases z.1⟩
  | k :: K => by
    rw [fk_c]
    by_cases n : nwK V D (nq V k)
    · rw [if_pos n, List.mem_cons, List.mem_cons, fk_mem K]
      exact ⟨fun z => by
        rcases z with z | z
        · exact ⟨Or.inl z, by rw [z]; exact n⟩
        · exact ⟨Or.inr z.1, z.2⟩, fun z => by
        rcases z.1 with y | y
        · exact Or.inl y
        · exact Or.inr ⟨y, z.2⟩⟩
    · rw [if_neg n, List.mem_cons, fk_mem K]
      exact ⟨fun z => ⟨Or.inr z.1, z.2⟩, fun z => by
        rcases z.1 with y | y
        · exact absurd (by rw [← y]; exact z.2) n
        · exact ⟨y, z.2⟩⟩
theorem fk_app {V : List ND} {D : List Nat} {c : Nat} : ∀ (P : List Nat), fkF V D (P ++ [c]) = fkF V D P ++ (if nwK V D (nq V c) then [c] else [])
  | [] => by
    rw [List.nil_append, fk_c]
    by_cases n : nwK V D (nq V c)
    · rw [if_pos n, if_pos n]; rfl
    · rw [if_neg n, if_neg n]; rfl
  | k :: P => by
    rw [List.cons_append, fk_c, fk_c, fk_app P]
    by_cases n : nwK V D (nq V k)
    · rw [if_pos n, if_pos n]; rfl
    · rw [if_neg n, if_neg n]
theorem clR_app {V : List ND} {R : List Nat} {x : Nat} : ∀ (X D : List Nat), clR V R D (X ++ [x]) = clR V R D X ++ (fkF V (D ++ X) (kids V x)).map (fun c => coT V R (nq V c))
  | [], D => by
    have e : clR V R D ([] ++ [x]) = (fkF V D (kids V x)).map (fun c => coT V R (nq V c)) ++ [] := rfl
    rw [e, List.append_nil, List.append_nil]
    rfl
  | y :: X, D => by
    have e : ∀ Z, clR V R D (y :: Z) = (fkF V D (kids V y)).map (fun c => coT V R (nq V c)) ++ clR V R (D ++ [y]) Z := fun _ => rfl
    rw [List.cons_append, e, e, clR_app X (D ++ [y]), List.append_assoc, List.append_assoc]
    rfl
theorem clR_key {V : List ND} {R : List Nat} {q : List Int} : ∀ (X D : List Nat), ((∃ t ∈ clR V R D X, rq t = q) ↔ nwK V D q ∧ ¬ nwK V X q)
  | [], D => ⟨(fun ⟨t, ht, _⟩ => by cases ht), fun z => absurd (fun y hy => by cases hy) z.2⟩
  | x :: X, D => by
    have e : clR V R D (x :: X) = (fkF V D (kids V x)).map (fun c => coT V R (nq V c)) ++ clR V R (D ++ [x]) X := rfl
    have ih := clR_key (V := V) (R := R) (q := q) X (D ++ [x])
    rw [e]
    constructor
    · rintro ⟨t, ht, hq⟩
      rcases List.mem_append.mp ht with z | z
      · obtain ⟨c, hc, rfl⟩ := List.mem_map.mp z
        have m := (fk_mem (kids V x)).mp hc
        have hq' : nq V c = q := hq
        rw [hq'] at m
        exact ⟨m.2, fun y => (fdK_no (kids V x)).mp (y x List.mem_cons_self) c m.1 hq'⟩
      · have i := ih.mp ⟨t, z, hq⟩
        exact ⟨fun y hy => i.1 y (List.mem_append.mpr (Or.inl hy)), fun y => i.2 (fun w hw => y w (List.mem_cons_of_mem _ hw))⟩
    · rintro ⟨h1, h2⟩
      by_cases f : fdK V q (kids V x) = -1
      · have n1 : nwK V (D ++ [x]) q := fun y hy => by
          rcases List.mem_append.mp hy with z | z
          · exact h1 y z
          · rw [List.mem_singleton] at z
            rw [z]; exact f
        have n2 : ¬ nwK V X q := fun y => h2 (fun w hw => by
          rcases List.mem_cons.mp hw with z | z
          · rw [z]; exact f
          · exact y w z)
        obtain ⟨t, ht, hq⟩ := ih.mpr ⟨n1, n2⟩
        exact ⟨t, List.mem_append.mpr (Or.inr ht), hq⟩
      · have : ∃ c ∈ kids V x, nq V c = q := by
          by_cases z : ∃ c ∈ kids V x, nq V c = q
          · exact z
          · exact absurd ((fdK_no (kids V x)).mpr (fun k hk w => z ⟨k, hk, w⟩)) f
        obtain ⟨c, hc, hq⟩ := this
        refine ⟨coT V R (nq V c), List.mem_append.mpr (Or.inl (List.mem_map.mpr ⟨c, (fk_mem (kids V x)).mpr ⟨hc, by rw [hq]; exact h1⟩, rfl⟩)), hq⟩
section WKV
variable {S S0 : GS} {c c2 d : Nat} {V U A : List ND}
theorem tw_next {g k : Nat} (hc : gT c) (hv : TV S c V) (hg : g < k) (hk : k < V.length) : Ev (fun n => f_X10_next n d 0 S [((c : Nat) : Int), (g : Int), (k : Int)]) (fun x S1 => (x = -1 ∨ (0 < x ∧ x < (V.length : Int))) ∧ S1 = S) := by
  obtain ⟨k1, k2, k3, k4, k5, k6, k7, k8, k9, k10, k11, k12, k13⟩ := tv_all (i := (k : Int)) hv (by omega) (by omega)
  obtain ⟨-, g2, -, -, -, -, -, -, g9, -⟩ := tv_all (i := (g : Int)) hv (by omega) (by omega)
  have h1 := tv_n hv
  have h2 := tv_l hv
  simp only [Int.toNat_natCast] at k2 k8 k9 g2 g9
  refine ev_up (fun n => e_X10_next_0) ?_
  unfold b_X10_next_0
  simp only [Int.toNat_natCast]
  repeat' (first
    | with_reducible refine ev_gvi (fun _ _ => ?_)
    | with_reducible refine ev_gv ?_
    | with_reducible refine ev_gg ?_ ?_
    | with_reducible refine ev_ite (fun _ => ?_) (fun _ => ?_)
    | omega
    | assumption)
  all_goals exact ev_ret ⟨by omega, rfl⟩
theorem tw_firstOfMap (hc : gT c) (hv : TV S c V) (h0 : 0 < V.length) (hz : nz V 0 = V.length) : Ev (fun n => f_X10_firstOfMap n d 0 S [((c : Nat) : Int), ((0 : Nat) : Int)]) (fun x S1 => (x = -1 ∨ (0 < x ∧ x < (V.length : Int))) ∧ S1 = S) := by
  obtain ⟨k1, k2, k3, k4, k5, k6, k7, k8, k9, k10, k11, k12, k13⟩ := tv_all (i := ((0 : Nat) : Int)) hv (by omega) (by omega)
  have h1 := tv_n hv
  have h2 := tv_l hv
  simp only [Int.toNat_natCast] at k1 k2 k6 k7 k8
  have key : ∀ s : Int, (s = 0 ∨ s = 1) → Ev (fun n => f_X10_firstOfMap n d 25 S [((c : Nat) : Int), ((0 : Nat) : Int), s]) (fun x S1 => (x = -1 ∨ (0 < x ∧ x < (V.length : Int))) ∧ S1 = S) := by
    intro s hs
    refine ev_up (fun n => e_X10_firstOfMap_25) ?_
    unfold b_X10_firstOfMap_25
    simp only [Int.toNat_natCast]
    repeat' (first
      | with_reducible refine ev_gvi (fun _ _ => ?_)
      | with_reducible refine ev_gv ?_
      | with_reducible refine ev_gg ?_ ?_
      | with_reducible refine ev_ite (fun _ => ?_) (fun _ => ?_)
      | omega
      | assumption)
    all_goals exact ev_ret ⟨by omega, rfl⟩
  refine ev_up (fun n => e_X10_firstOfMap_0) ?_
  unfold b_X10_firstOfMap_0
  repeat' (first
    | with_reducible refine ev_gvi (fun _ _ => ?_)
    | with_reducible refine ev_gv ?_
    | with_reducible refine ev_gg ?_ ?_
    | with_reducible refine ev_ite (fun _ => ?_) (fun _ => ?_)
    | omega
    | assumption)
  all_goals exact key _ (by omega)
theorem tw_valueLike {j : Nat} (hc : gT c) (hv : TV S c V) (hw : V.length = 0 ∨ nz V 0 = V.length) (hd : 1 ≤ d) (hc2 : gT c2) (hv2 : TV S c2 U) (hj : j < U.length) : Ev (fun n => f_X10_valueLike n d 0 S [((c : Nat) : Int), ((0 : Nat) : Int), ((c2 : Nat) : Int), (j : Int)]) (fun x S1 => inr x ∧ S1 = S) := by
  have h2 := tv_l hv
  have lp : ∀ (u : Nat) (x m : Int), 0 ≤ m → m + (u : Int) = 100 → (x = -1 ∨ (0 < x ∧ x < (V.length : Int))) → Ev (fun n => f_X10_valueLike n d 10 S [((c : Nat) : Int), ((0 : Nat) : Int), ((c2 : Nat) : Int), (j : Int), x, m]) (fun x S1 => inr x ∧ S1 = S) := by
    intro u
    induction u with
    | zero =>
      intro x m hm hu hx
      refine ev_up (fun n => e_X10_valueLike_10) ?_
      unfold b_X10_valueLike_10
      refine ev_gg (by first | omega | (constructor <;> omega)) ?_
      refine ev_ite (fun _ => ev_ret ⟨by decide, rfl⟩) (fun _ => ?_)
      refine ev_gg (by first | omega | (constructor <;> omega)) ?_
      refine ev_ite (fun _ => ?_) (fun z => by omega)
      exact ev_ret ⟨by decide, rfl⟩
    | succ u ih =>
      intro x m hm hu hx
      refine ev_up (fun n => e_X10_valueLike_10) ?_
      unfold b_X10_valueLike_10
      refine ev_gg (by first | omega | (constructor <;> omega)) ?_
      refine ev_ite (fun _ => ev_ret ⟨by decide, rfl⟩) (fun z => ?_)
      obtain ⟨y, rfl⟩ : ∃ y : Nat, x = (y : Int) := ⟨x.toNat, by omega⟩
      refine ev_gg (by first | omega | (constructor <;> omega)) ?_
      refine ev_ite (fun w => by omega) (fun _ => ?_)
      refine ev_gg (by first | omega | (constructor <;> omega)) ?_
      refine ev_gg (hc) ?_
      refine ev_gcr (t_orderOfKeys (V := V) (U := U) (i := y) (j := j) (d := d - 1) hc hc2 hv hv2 (by omega) hj) ?_
      have o := oK_r (nq V y) (nq U j)
      refine ev_gg (by first | omega | (constructor <;> omega)) ?_
      refine ev_ite (fun _ => ?_) (fun _ => ?_)
      · refine ev_gc (tw_next (V := V) (g := 0) (k := y) (d := d - 1) hc hv (by omega) (by omega)) (fun x2 S2 q2 => ?_)
        obtain ⟨q2, rfl⟩ := q2
        refine ev_gv ?_
        exact ih x2 (m + 1) (by omega) (by omega) q2
      · exact ev_ret ⟨by constructor <;> omega, rfl⟩
  refine ev_up (fun n => e_X10_valueLike_0) ?_
  unfold b_X10_valueLike_0
  refine ev_gg (by first | omega | (constructor <;> omega)) ?_
  refine ev_gg (hc) ?_
  rcases hw with z | z
  · refine ev_gcr (t_firstOfMapX (V := V) (g := 0) (d := d - 1) hc hv (by omega) (by decide)) ?_
    exact lp 100 (-1) 0 (by decide) (by decide) (Or.inl rfl)
  · by_cases z0 : 0 < V.length
    · refine ev_gc (tw_firstOfMap (V := V) (d := d - 1) hc hv z0 z) (fun x2 S2 q2 => ?_)
      obtain ⟨q2, rfl⟩ := q2
      exact lp 100 x2 0 (by decide) (by decide) q2
    · refine ev_gcr (t_firstOfMapX (V := V) (g := 0) (d := d - 1) hc hv (by omega) (by decide)) ?_
      exact lp 100 (-1) 0 (by decide) (by decide) (Or.inl rfl)
/-- is there a COLUMN of that KEY -/
theorem mt_look {E : List (List ND)} {mm C : Nat} {k : Nat → Int → GS → Option (Int × GS)} {Qf : Int → GS → Prop} (hc : gT c) (hc3 : c + 8 ≤ 320) (hd : 2 ≤ d) (hv : TO c (A, false) S0) (hC : C < A.length) (hE : ∀ t ∈ E, TR t ∧ PZL t) (hM : MdT 320 (apM (some []) (gpN (ndK 5) E mm)) S0 S) (nx : ∀ x S1, MdT 320 (apM (some []) (gpN (ndK 5) E E.length)) S0 S1 → inr x → ((gpN (ndK 5) E 0).length ≤ 100 → (x = -1 ↔ ∀ t ∈ E, rq t ≠ nq A C)) → Ev (fun n => k n x S1) Qf) : Ev (fun n => gc (f_X10_close n (d - 1) 0 S [((320 : Nat) : Int), 0]) fun _ S_22 => gc (f_X10_valueLike n (d - 1) 0 S_22 [((320 : Nat) : Int), 0, ((c : Nat) : Int), (C : Int)]) fun x24 S_25 => k n x24 S_25) Qf := by
  have g320 : gT 320 := by decide
  have tS : ∀ {R : Option (List ND)} {S1 : GS}, MdT 320 R S0 S1 → TO c (A, false) S1 := fun h => to_fr hv (mt_ty h).1 (fun k h1 h2 => by unfold trM; omega)
  have ix : ixT (some ([] : List ND)) (gpN (ndK 5) E 0).length 0 := ⟨by decide, fun V hV _ => by cases hV; rfl⟩
  by_cases cc : (gpN (ndK 5) E 0).length ≤ 100
  · refine ev_gc (mt_closeM (d := d - 1) (m := mm) (r := some []) g320 (by omega) ix hM) (fun _ S2 q2 => ?_)
    have t2 := tS q2
    have e1 : apM (some []) (gpN (ndK 5) E E.length) = some (gpN (ndK 5) E E.length) := by
      show (if ([] : List ND).length + (gpN (ndK 5) E 0).length ≤ 100 then some ([] ++ gpN (ndK 5) E E.length) else none) = _
      rw [List.length_nil, Nat.zero_add, if_pos cc, List.nil_append]
    have q2' : TY 320 S0 (gpN (ndK 5) E E.length, false) S2 := by
      rw [e1] at q2
      exact q2
    have wT : WF (gpN (ndK 5) E E.length) := wf_gp (show (4 : Int) ≤ 5 by decide) (fun t ht => (hE t ht).1)
    have zT : PZ (gpN (ndK 5) E E.length) := pz_l (pzl_gp (fun t ht => (hE t ht).2))
    refine ev_gcr (t_valueLike (V := gpN (ndK 5) E E.length) (U := A) (g := 0) (j := C) (d := d - 1) g320 q2'.1 wT (by decide) (by omega) hc t2.1 hC) ?_
    have lT : (gpN (ndK 5) E E.length).length = E.flatten.length + 1 := gp_len
    have nzT : nz (gpN (ndK 5) E E.length) 0 = (gpN (ndK 5) E E.length).length := by
      have e0 : nz (gpN (ndK 5) E E.length) 0 = 1 + (E.take E.length).flatten.length := rfl
      rw [e0, lT, List.take_length]
      omega
    have ev : vLk (gpN (ndK 5) E E.length) 0 (nq A C) = fdE (nq A C) E 1 := by
      have h5 : nk (gpN (ndK 5) E E.length) 0 = 5 := rfl
      have e0 := vLk_c (a := 0) (A := gpN (ndK 5) E E.length) (by omega) h5 (nq A C)
      have e2 : fdK (gpN (ndK 5) E E.length) (nq A C) (kids (gpN (ndK 5) E E.length) 0) = fdE (nq A C) E 1 := by
        have f := fdK_flat (key := nq A C) E [wZ (ndK 5) (1 + (E.take E.length).flatten.length)] (fun t ht => (hE t ht).1) zT
        have ek : kids (gpN (ndK 5) E E.length) 0 = ks (gpN (ndK 5) E E.length) 1 (gpN (ndK 5) E E.length).length := by
          have : kids (gpN (ndK 5) E E.length) 0 = ks (gpN (ndK 5) E E.length) (0 + 1) (0 + nz (gpN (ndK 5) E E.length) 0) := rfl
          rw [this, nzT, Nat.zero_add, Nat.zero_add]
        rw [ek]
        exact f
      exact e0.trans e2
    rw [ev]
    refine nx _ S2 q2 ?_ (fun _ => fdE_no E 1)
    rw [← ev]
    have l100 : (gpN (ndK 5) E E.length).length ≤ 100 := by
      rw [gp_len] at cc ⊢
      exact cc
    rcases vLk_r wT zT 0 (nq A C) with z | z
    · rw [z]; decide
    · constructor <;> omega
  · have e1 : ∀ m, apM (some []) (gpN (ndK 5) E m) = none := fun m => by
      show (if ([] : List ND).length + (gpN (ndK 5) E 0).length ≤ 100 then some ([] ++ gpN (ndK 5) E m) else none) = _
      rw [List.length_nil, Nat.zero_add, if_neg cc]
    rw [e1] at hM
    obtain ⟨W, w1, w2⟩ := hM
    refine ev_gc (ty_close (d := d - 1) (i := 0) g320 (by omega) w2 (by decide)) (fun _ S2 q2 => ?_)
    have m2 : MdT 320 none S0 S2 := ⟨clo W 0, by rw [clo_2]; exact w1, q2⟩
    have t2 := tS m2
    have hz : (clo W 0).1.length = 0 ∨ nz (clo W 0).1 0 = (clo W 0).1.length := by
      unfold clo
      by_cases z : 0 ≤ (0 : Int) ∧ (0 : Int) < (W.1.length : Int)
      · rw [if_pos z]
        refine Or.inr ?_
        show nz (W.1.set 0 (wZ (W.1.getD 0 nd0) (W.1.length - 0))) 0 = (W.1.set 0 (wZ (W.1.getD 0 nd0) (W.1.length - 0))).length
        rw [List.length_set]
        have : (W.1.set 0 (wZ (W.1.getD 0 nd0) (W.1.length - 0))).getD 0 nd0 = wZ (W.1.getD 0 nd0) (W.1.length - 0) := by
          rw [getD_set (by omega), if_pos rfl]
        show ((W.1.set 0 (wZ (W.1.getD 0 nd0) (W.1.length - 0))).getD 0 nd0).2.1 = _
        rw [this]
        show W.1.length - 0 = W.1.length
        omega
      · rw [if_neg z]
        exact Or.inl (by omega)
    refine ev_gc (tw_valueLike (V := (clo W 0).1) (U := A) (j := C) (d := d - 1) g320 q2.1 hz (by omega) hc t2.1 hC) (fun x S3 q3 => ?_)
    obtain ⟨hx, rfl⟩ := q3
    exact nx x _ (by rw [e1]; exact m2) hx (fun z => absurd z cc)
end WKV
section CBC
variable {S S0 : GS} {c d : Nat} {A : List ND}
theorem t_byColumns (hc : gT c) (hc3 : c + 8 ≤ 320) (hd : 12 ≤ d) (hv : TO c (A, false) S) (dA : DOC A) (h5 : ∀ x ∈ kids A 0, nk A x = 5) (hG : Good S) : Ev (fun n => f_X11_byColumns n d 0 S [((c : Nat) : Int), ((320 : Nat) : Int)]) (fun _ S1 => MdT 320 (apM (some []) (clT A)) S S1) := by
  have g320 : gT 320 := by decide
  have hV0 := dA.1.1
  have wA := hV0.1.1
  have zA := pz_l hV0.2
  have l1 := hV0.1.2.1
  have l100 := dA.2.2.1
  have w0 := wA.1 0 (by omega)
  have z0 := zA 0
  have ku := kuv_sdc dA.1
  have tS : ∀ {R : Option (List ND)} {S1 : GS}, MdT 320 R S S1 → TO c (A, false) S1 := fun h => to_fr hv (mt_ty h).1 (fun k h1 h2 => by unfold trM; omega)
  have ix : ∀ n, ixT (some ([] : List ND)) n 0 := fun n => ⟨by decide, fun V hV _ => by cases hV; rfl⟩
  have trC : ∀ (D P : List Nat), ∀ t ∈ clR A (kids A 0) [] D ++ (fkF A D P).map (fun c => coT A (kids A 0) (nq A c)), TR t ∧ PZL t := by
    intro D P t ht
    rcases List.mem_append.mp ht with z | z
    · -- every COLUMN is one of coT
      have all : ∀ (X D0 : List Nat), ∀ t ∈ clR A (kids A 0) D0 X, TR t ∧ PZL t := by
        intro X
        induction X with
        | nil => intro D0 t ht; cases ht
        | cons x X ih =>
          intro D0 t ht
          have e : clR A (kids A 0) D0 (x :: X) = (fkF A D0 (kids A x)).map (fun c => coT A (kids A 0) (nq A c)) ++ clR A (kids A 0) (D0 ++ [x]) X := rfl
          rw [e] at ht
          rcases List.mem_append.mp ht with y | y
          · obtain ⟨c, _, rfl⟩ := List.mem_map.mp y
            exact (co_tr dA.1).1
          · exact ih _ t y
      exact all D [] t z
    · obtain ⟨c, _, rfl⟩ := List.mem_map.mp z
      exact (co_tr dA.1).1
  -- the KEYS of one MAP
  have L41 : ∀ (x n : Nat) (D : List Nat) (Qf : Int → GS → Prop), x ∈ kids A 0 → n ≤ 99 → 0 < x → x < 0 + nz A 0 → (∀ (S1 : GS) (m : Nat), MdT 320 (apM (some []) (gpN (ndK 5) (clR A (kids A 0) [] (D ++ [x])) m)) S S1 → m ≤ (clR A (kids A 0) [] (D ++ [x])).length → Ev (fun k => f_X11_byColumns k d 19 S1 [((c : Nat) : Int), ((320 : Nat) : Int), 0, cur (x + nz A x) (0 + nz A 0), ((n + 1 : Nat) : Int)]) Qf) → ∀ (K P : List Nat) (e m mm : Nat) (S1 : GS), ks A e (x + nz A x) = K → x < e → e ≤ x + nz A x → P ++ K = kids A x → m + (x + nz A x - e) ≤ 99 → mm ≤ (clR A (kids A 0) [] D ++ (fkF A D P).map (fun c => coT A (kids A 0) (nq A c))).length → MdT 320 (apM (some []) (gpN (ndK 5) (clR A (kids A 0) [] D ++ (fkF A D P).map (fun c => coT A (kids A 0) (nq A c))) mm)) S S1 → Ev (fun k => f_X11_byColumns k d 41 S1 [((c : Nat) : Int), ((320 : Nat) : Int), 0, (x : Int), (n : Int), cur e (x + nz A x), (m : Int)]) Qf := by
    intro x n D Qf hx hn hx0 hxe nx K
    have xl : x < A.length := by omega
    have wx := wA.1 x xl
    have zx := zA x
    induction K with
    | nil =>
      intro P e m mm S1 he h0 hle hP hm hmm hM
      have ee : ¬ e < x + nz A x := fun z => by
        rw [ks_cons zA z] at he
        cases he
      have ec : cur e (x + nz A x) = -1 := if_neg ee
      rw [List.append_nil] at hP
      subst hP
      rw [ec]
      refine ev_up (fun n => e_X11_byColumns_41) ?_
      unfold b_X11_byColumns_41
      refine ev_gg (by decide) ?_
      refine ev_ite (fun _ => ?_) (fun z => by omega)
      refine ev_gg (by first | omega | (constructor <;> omega)) ?_
      refine ev_gg (hc) ?_
      have t1 := tS hM
      refine ev_gcr (t_next (V := A) (g := 0) (k := x) (d := d - 1) hc t1.1 wA hx0 hxe (by omega)) ?_
      refine ev_gv ?_
      rw [show (n : Int) + 1 = ((n + 1 : Nat) : Int) by omega]
      have eD := clR_app (V := A) (R := kids A 0) (x := x) D []
      rw [List.nil_append] at eD
      exact nx S1 mm (by rw [eD]; exact hM) (by rw [eD]; exact hmm)
    | cons k K ih =>
      intro P e m mm S1 he h0 hle hP hm hmm hM
      have zl : e < x + nz A x := by
        by_cases z : e < x + nz A x
        · exact z
        · rw [ks_nil (by omega)] at he
          cases he
      obtain ⟨rfl, eK⟩ : e = k ∧ ks A (e + nz A e) (x + nz A x) = K := by
        rw [ks_cons zA zl] at he
        exact List.cons.inj he
      have el : e < A.length := by omega
      have ze := zA e
      have we := wA.2.1 x e h0 zl
      have ec : cur e (x + nz A x) = (e : Int) := if_pos zl
      have kux := ku x xl (h5 x hx)
      rw [← hP] at kux
      have newP : ∀ c ∈ P, nq A c ≠ nq A e := fun c hc w => by
        rw [List.map_append, List.nodup_append] at kux
        exact kux.2.2 (nq A c) (List.mem_map.mpr ⟨c, hc, rfl⟩) (nq A e) (List.mem_map.mpr ⟨e, List.mem_cons_self, rfl⟩) w
      generalize hE : clR A (kids A 0) [] D ++ (fkF A D P).map (fun c => coT A (kids A 0) (nq A c)) = E at *
      have trE : ∀ t ∈ E, TR t ∧ PZL t := by
        rw [← hE]
        exact trC D P
      have isN : (∀ t ∈ E, rq t ≠ nq A e) ↔ nwK A D (nq A e) := by
        have ck := clR_key (V := A) (R := kids A 0) (q := nq A e) D []
        constructor
        · intro z
          by_cases w : nwK A D (nq A e)
          · exact w
          · obtain ⟨t, ht, hq⟩ := ck.mpr ⟨(fun y hy => by cases hy), w⟩
            exact absurd hq (z t (by rw [← hE]; exact List.mem_append.mpr (Or.inl ht)))
        · intro w t ht hq
          rw [← hE] at ht
          rcases List.mem_append.mp ht with y | y
          · exact (ck.mp ⟨t, y, hq⟩).2 w
          · obtain ⟨c, hc, rfl⟩ := List.mem_map.mp y
            exact newP c ((fk_mem P).mp hc).1 hq
      have eE : clR A (kids A 0) [] D ++ (fkF A D (P ++ [e])).map (fun c => coT A (kids A 0) (nq A c)) = E ++ (if nwK A D (nq A e) then [coT A (kids A 0) (nq A e)] else []) := by
        rw [fk_app, List.map_append, ← List.append_assoc, hE]
        by_cases w : nwK A D (nq A e)
        · rw [if_pos w, if_pos w]; rfl
        · rw [if_neg w, if_neg w]; rfl
      have IH := ih (P ++ [e]) (e + nz A e) (m + 1)
      have noM : ∀ (F : List (List ND)) (m : Nat), ¬ (gpN (ndK 5) F 0).length ≤ 100 → apM (some []) (gpN (ndK 5) F m) = none := fun F m z => by
        show (if ([] : List ND).length + (gpN (ndK 5) F 0).length ≤ 100 then some ([] ++ gpN (ndK 5) F m) else none) = _
        rw [List.length_nil, Nat.zero_add, if_neg z]
      rw [ec]
      refine ev_up (fun n => e_X11_byColumns_41) ?_
      unfold b_X11_byColumns_41
      refine ev_gg (by first | omega | (constructor <;> omega)) ?_
      refine ev_ite (fun z => by omega) (fun _ => ?_)
      refine ev_gg (by first | omega | (constructor <;> omega)) ?_
      refine ev_ite (fun z => by omega) (fun _ => ?_)
      refine ev_gg (by first | omega | (constructor <;> omega)) ?_
      refine ev_gg (g320) ?_
      refine mt_look (d := d) (C := e) hc hc3 (by omega) hv el trE hM (fun x24 S2 m2 hi hq => ?_)
      have t2 := tS m2
      refine ev_gg (hi) ?_
      refine ev_ite (fun z => ?_) (fun z => ?_)
      · refine ev_gg (hc) ?_
        refine ev_gcr (t_next (V := A) (g := x) (k := e) (d := d - 1) hc t2.1 wA h0 zl xl) ?_
        refine ev_gv ?_
        rw [show (m : Int) + 1 = ((m + 1 : Nat) : Int) by omega]
        by_cases cc : (gpN (ndK 5) E 0).length ≤ 100
        · have nn : ¬ nwK A D (nq A e) := fun w => z ((hq cc).mpr (isN.mpr w))
          rw [if_neg nn, List.append_nil] at eE
          refine IH E.length S2 eK (by omega) (by omega) (by rw [← hP, List.append_assoc]; rfl) (by omega) (by rw [eE]; exact Nat.le_refl _) ?_
          rw [eE]
          exact m2
        · refine IH 0 S2 eK (by omega) (by omega) (by rw [← hP, List.append_assoc]; rfl) (by omega) (Nat.zero_le _) ?_
          rw [noM _ _ cc] at m2
          rw [eE, noM _ _ (fun w => cc (by
            rw [gp_len] at w ⊢
            rw [List.flatten_append, List.length_append] at w
            omega))]
          exact m2
      · have z' : x24 = -1 := by
          by_cases y : x24 = -1
          · exact y
          · exact absurd y z
        refine ev_gc (t_addColumn (d := d - 1) (C := e) (A := A) hc hc3 (by omega) hv dA el m2) (fun _ S3 m3 => ?_)
        have t3 := tS m3
        refine ev_gg (hc) ?_
        refine ev_gcr (t_next (V := A) (g := x) (k := e) (d := d - 1) hc t3.1 wA h0 zl xl) ?_
        refine ev_gv ?_
        rw [show (m : Int) + 1 = ((m + 1 : Nat) : Int) by omega]
        by_cases cc : (gpN (ndK 5) E 0).length ≤ 100
        · have nn : nwK A D (nq A e) := isN.mp ((hq cc).mp z')
          rw [if_pos nn] at eE
          refine IH E.length S3 eK (by omega) (by omega) (by rw [← hP, List.append_assoc]; rfl) (by omega) (by rw [eE, List.length_append]; omega) ?_
          rw [eE]
          have e5 := apM_gpm (r := some []) (x := ndK 5) (E := E) (n := [coT A (kids A 0) (nq A e)]) (Nat.le_refl E.length)
          rw [List.flatten_cons, List.flatten_nil, List.append_nil] at e5
          rw [e5] at m3
          exact m3
        · refine IH 0 S3 eK (by omega) (by omega) (by rw [← hP, List.append_assoc]; rfl) (by omega) (Nat.zero_le _) ?_
          rw [noM _ _ cc] at m3
          rw [eE, noM _ _ (fun w => cc (by
            rw [gp_len] at w ⊢
            rw [List.flatten_append, List.length_append] at w
            omega))]
          exact m3
  have L19 : ∀ (K D : List Nat) (e n mm : Nat) (S1 : GS), ks A e (0 + nz A 0) = K → 0 < e → e ≤ 0 + nz A 0 → D ++ K = kids A 0 → n + (0 + nz A 0 - e) ≤ 99 → mm ≤ (clR A (kids A 0) [] D).length → MdT 320 (apM (some []) (gpN (ndK 5) (clR A (kids A 0) [] D) mm)) S S1 → Ev (fun k => f_X11_byColumns k d 19 S1 [((c : Nat) : Int), ((320 : Nat) : Int), 0, cur e (0 + nz A 0), (n : Int)]) (fun _ S1 => MdT 320 (apM (some []) (clT A)) S S1) := by
    intro K
    induction K with
    | nil =>
      intro D e n mm S1 he h0 hle hD hn hmm hM
      have ee : ¬ e < 0 + nz A 0 := fun z => by
        rw [ks_cons zA z] at he
        cases he
      have ec : cur e (0 + nz A 0) = -1 := if_neg ee
      rw [List.append_nil] at hD
      subst hD
      rw [ec]
      refine ev_up (fun n => e_X11_byColumns_19) ?_
      unfold b_X11_byColumns_19
      refine ev_gg (by decide) ?_
      refine ev_ite (fun _ => ?_) (fun z => by omega)
      refine ev_gg (by first | omega | (constructor <;> omega)) ?_
      refine ev_gg (g320) ?_
      refine ev_gc (mt_closeM (d := d - 1) (m := mm) (r := some []) g320 (by omega) (ix _) hM) (fun _ S2 q2 => ?_)
      exact ev_ret q2
    | cons k K ih =>
      intro D e n mm S1 he h0 hle hD hn hmm hM
      have zl : e < 0 + nz A 0 := by
        by_cases z : e < 0 + nz A 0
        · exact z
        · rw [ks_nil (by omega)] at he
          cases he
      obtain ⟨rfl, eK⟩ : e = k ∧ ks A (e + nz A e) (0 + nz A 0) = K := by
        rw [ks_cons zA zl] at he
        exact List.cons.inj he
      have el : e < A.length := by omega
      have ze := zA e
      have we := wA.2.1 0 e h0 zl
      have we1 := wA.1 e el
      have ec : cur e (0 + nz A 0) = (e : Int) := if_pos zl
      have me : e ∈ kids A 0 := by
        rw [← hD]
        exact List.mem_append.mpr (Or.inr List.mem_cons_self)
      have t1 := tS hM
      rw [ec]
      refine ev_up (fun n => e_X11_byColumns_19) ?_
      unfold b_X11_byColumns_19
      refine ev_gg (by first | omega | (constructor <;> omega)) ?_
      refine ev_ite (fun z => by omega) (fun _ => ?_)
      refine ev_gg (by first | omega | (constructor <;> omega)) ?_
      refine ev_ite (fun z => by omega) (fun _ => ?_)
      refine ev_gg (by first | omega | (constructor <;> omega)) ?_
      refine ev_gg (hc) ?_
      refine ev_gcr (t_first (V := A) (g := e) (d := d - 1) hc t1.1 wA el) ?_
      refine L41 e n D _ me (by omega) h0 zl (fun S2 m2 hM2 hm2 => ih (D ++ [e]) (e + nz A e) (n + 1) m2 S2 eK (by omega) (by omega) (by rw [← hD, List.append_assoc]; rfl) (by omega) hm2 hM2) (kids A e) [] (e + 1) 0 mm S1 rfl (by omega) (by omega) (List.nil_append _) (by omega) ?_ ?_
      · rw [List.length_append]
        omega
      · have : clR A (kids A 0) [] D ++ (fkF A D []).map (fun c => coT A (kids A 0) (nq A c)) = clR A (kids A 0) [] D := List.append_nil _
        rw [this]
        exact hM
  refine ev_up (fun n => e_X11_byColumns_0) ?_
  unfold b_X11_byColumns_0
  refine ev_gg (by first | omega | (constructor <;> omega)) ?_
  refine ev_gg (g320) ?_
  refine ev_gc (ty_clear (d := d - 1) g320 hG) (fun _ S2 q2 => ?_)
  have m2 : MdT 320 (some []) S S2 := q2
  refine ev_gc (mt_add (d := d - 1) (k := 5) g320 m2 (by decide)) (fun x6 S3 q3 => ?_)
  obtain ⟨hx6, m3⟩ := q3
  have e6 : x6 = 0 := hx6.2 [] rfl (by decide)
  subst e6
  refine ev_gg (hc) ?_
  have t3 := tS m3
  refine ev_gcr (t_first (V := A) (g := 0) (d := d - 1) hc t3.1 wA (by omega)) ?_
  exact L19 (kids A 0) [] (0 + 1) 0 0 S3 rfl (by omega) (by omega) (List.nil_append _) (by omega) (Nat.le_refl _) m3
end CBC
section CCO
variable {S S1 : GS} {T0 : List ND} {Ds : List (List ND)} {pg pp : List Int} {r : Int} {L : List Nat} {Q : List (List Int)} {C : List (Int × Int)} {d : Nat}
theorem c_columns {a : Int} (h : ClS T0 Ds pg pp r L Q C S) (hd : 30 ≤ d) (ha : inr a) : Ev (fun m => f_X11_columns m d 0 S [a]) (fun x S1 => if hasD Ds a then (if rk (atD' Ds a) = 4 ∧ (∀ x ∈ kids (atD' Ds a) 0, nk (atD' Ds a) x = 5) then (if pOK (clT (atD' Ds a)) ∧ Ds.length < 40 then x = (Ds.length : Int) ∧ ClS T0 (Ds ++ [clT (atD' Ds a)]) pg pp r L Q C S1 else x = exB + 2 ∧ ClS T0 Ds pg pp r L Q C S1) else x = exB + 2 ∧ ClS T0 Ds pg pp r L Q C S1) else x = exB + 3 ∧ ClS T0 Ds pg pp r L Q C S1) := by
  have ex := ex_e
  have n4 := h.1.2.1
  refine ev_up (fun n => e_X11_columns_0) ?_
  unfold b_X11_columns_0
  refine ev_gg (by first | omega | (constructor <;> omega)) ?_
  refine ev_gcr (cl_doc (d := d - 1) h ha) ?_
  by_cases c : hasD Ds a
  · have at_ := cl_at h c
    rw [if_pos c]
    simp only [if_pos c]
    refine ev_ite (fun _ => ?_) (fun z => by omega)
    rw [Int.toNat_natCast]
    have dA : DOC (atD' Ds a) := at_.2.2
    have tA : TO (8 * a.toNat) (atD' Ds a, false) S := at_.2.1
    have gA := at_.1
    generalize atD' Ds a = A at *
    have lA := dA.1.1.1.2.1
    refine ev_gg (gA.1) ?_
    refine ev_gcr (t_is (d := d - 1) gA.1 tA.1 (by decide) (by decide)) ?_
    have ei : isI A 0 4 = if rk A = 4 then 1 else 0 := by
      rw [is_kd (by decide)]
      have e : kdI A 0 = nk A 0 := kdI_n (g := 0) (by omega)
      rw [e]
      rfl
    rw [ei]
    by_cases c4 : rk A = 4
    · rw [if_pos c4]
      refine ev_gg (by decide) ?_
      refine ev_ite (fun z => absurd z (by decide)) (fun _ => ?_)
      refine ev_gcr (t_hasOnly (V := A) (g := 0) (q := 5) (d := d - 1) gA.1 tA.1 dA.1.1.1.1 (by omega) (by omega) (by decide)) ?_
      rw [hoK_all]
      by_cases c5 : ∀ x ∈ kids A 0, nk A x = 5
      · rw [if_pos c5]
        have c45 : rk A = 4 ∧ ∀ x ∈ kids A 0, nk A x = 5 := ⟨c4, c5⟩
        simp only [if_pos c45]
        refine ev_gg (by decide) ?_
        refine ev_ite (fun _ => ?_) (fun z => absurd (by decide) z)
        refine ev_gc (t_byColumns (d := d - 1) (A := A) gA.1 (by have := gA.2; omega) (by omega) tA dA c5 h.2.2.2.2.2.2.2.2) (fun _ S2 q2 => ?_)
        have mt := mt_ty q2
        have h2 := cl_fr h mt.1 (fun k z => md_wk z) mt.2
        obtain ⟨⟨ctr, crq, csd⟩, _, _⟩ := clT_ok dA c5
        have eR : apM (some []) (clT A) = if (clT A).length ≤ 100 then some (clT A) else none := by
          show (if ([] : List ND).length + (clT A).length ≤ 100 then some ([] ++ clT A) else none) = _
          rw [List.length_nil, Nat.zero_add, List.nil_append]
        refine ev_gc (cl_admitM (d := d - 1) (T := clT A) (by omega) h2 q2 eR csd crq) (fun x S3 q3 => ?_)
        by_cases cp : pOK (clT A) ∧ Ds.length < 40
        · rw [if_pos cp] at q3
          simp only [if_pos cp]
          refine ev_ite (fun _ => ?_) (fun z => by omega)
          refine ev_gg (by first | omega | (constructor <;> omega)) ?_
          exact ev_ret q3
        · rw [if_neg cp] at q3
          simp only [if_neg cp]
          obtain ⟨rfl, rfl⟩ := q3
          refine ev_ite (fun z => by omega) (fun _ => ?_)
          exact ev_ret ⟨rfl, h2⟩
      · rw [if_neg c5]
        simp only [if_neg (show ¬ (rk A = 4 ∧ ∀ x ∈ kids A 0, nk A x = 5) from fun z => c5 z.2)]
        refine ev_gg (by decide) ?_
        refine ev_ite (fun z => absurd rfl z) (fun _ => ?_)
        exact ev_ret ⟨rfl, h⟩
    · rw [if_neg c4]
      simp only [if_neg (show ¬ (rk A = 4 ∧ ∀ x ∈ kids A 0, nk A x = 5) from fun z => c4 z.1)]
      refine ev_gg (by decide) ?_
      refine ev_ite (fun _ => ?_) (fun z => absurd trivial z)
      exact ev_ret ⟨rfl, h⟩
  · rw [if_neg c]
    simp only [if_neg c]
    refine ev_ite (fun z => by omega) (fun _ => ?_)
    exact ev_ret ⟨rfl, h⟩
end CCO
