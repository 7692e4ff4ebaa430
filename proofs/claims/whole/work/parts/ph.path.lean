/-! THE REFERENCE: PATHS of NODES; COMMON VALUES -/
theorem lcV_1 {eq : Nat → Nat → Bool} {n m : Nat} : ∀ (k a b : Nat), (n - a) + (m - b) ≤ k → (lcV eq n m (a + 1) b ≤ lcV eq n m a b ∧ lcV eq n m a (b + 1) ≤ lcV eq n m a b) ∧ lcV eq n m a b ≤ lcV eq n m (a + 1) b + 1 ∧ lcV eq n m a b ≤ lcV eq n m a (b + 1) + 1
  | 0, a, b, hk => by
    rw [lcV_0 (a := a) (b := b) (by omega), lcV_0 (a := a + 1) (b := b) (by omega), lcV_0 (a := a) (b := b + 1) (by omega)]
    omega
  | k + 1, a, b, hk => by
    by_cases c : a < n ∧ b < m
    · have i1 := lcV_1 (eq := eq) (n := n) (m := m) k (a + 1) b (by omega)
      have i2 := lcV_1 (eq := eq) (n := n) (m := m) k a (b + 1) (by omega)
      rw [lcV_s c]
      by_cases e : eq a b = true
      · rw [if_pos e]
        omega
      · rw [if_neg e]
        omega
    · rw [lcV_0 (a := a) (b := b) (by omega), lcV_0 (a := a + 1) (b := b) (by omega), lcV_0 (a := a) (b := b + 1) (by omega)]
      omega
/-- what the reference tells is the same -/
theorem lcV_best {eq : Nat → Nat → Bool} {n m a b : Nat} (h : a < n ∧ b < m) : lcV eq n m a b = max (max (if eq a b then lcV eq n m (a + 1) (b + 1) + 1 else 0) (lcV eq n m (a + 1) b)) (lcV eq n m a (b + 1)) := by
  have i1 := lcV_1 (eq := eq) (n := n) (m := m) _ (a + 1) b (Nat.le_refl _)
  have i2 := lcV_1 (eq := eq) (n := n) (m := m) _ a (b + 1) (Nat.le_refl _)
  rw [lcV_s h]
  by_cases e : eq a b = true
  · rw [if_pos e, if_pos e]
    omega
  · rw [if_neg e, if_neg e]
    omega
theorem wnum_l4 (v : Int) : (wnum v).length ≤ 4 := by
  unfold wnum
  rw [List.length_append, List.length_append, List.length_append]
  have a1 : (if v < 0 then [(45 : Int)] else []).length ≤ 1 := by split <;> decide
  have a2 : (if 99 < max v (-v) then [48 + max v (-v) / 100 % 10] else []).length ≤ 1 := by
    split
    · exact Nat.le_refl _
    · exact Nat.zero_le _
  have a3 : (if 9 < max v (-v) then [48 + max v (-v) / 10 % 10] else []).length ≤ 1 := by
    split
    · exact Nat.le_refl _
    · exact Nat.zero_le _
  have a4 : [48 + max v (-v) % 10].length = 1 := rfl
  omega
section RPH
variable {S : GS} {d K : Nat} {V : List ND} {p : List Int}
abbrev pnP : Nat → Nat → Prop := fun c j => ouP 0 c j ∨ c = 513 ∨ paP c j
theorem pth_325 (hL : LK S K V) (hV : TR V ∧ PZL V) (hd : ∀ r, dpS r V ≤ 12) {i : Nat} (hi : i < V.length) : (pth V i).length ≤ 325 := by
  have l100 := hL.2.1
  have h1 := pth_len hL hV i i hi (Nat.le_refl _)
  by_cases e : i = 0
  · subst e
    show ([] : List Int).length ≤ 325
    decide
  · have u := up_12 hV l100 hd (i := i) (by omega) hi
    have l2 := upL_len hV i i hi (Nat.le_refl _)
    have l3 := upN_st hV 100 i i hi (Nat.zero_le _) (by
      have z0 : nz V 0 = V.length := hV.1.2.2
      omega) (by omega) (by omega)
    omega
theorem q_pathOfNode {k i : Int} {I : Nat} (hd : 6 ≤ d) (hk : k = (K : Int)) (hK : K < 48) (hi : i = (I : Int)) (hL : LK S K V) (hV : TR V ∧ PZL V) (hdp : ∀ r, dpS r V ≤ 12) (hI : I < V.length) : Ev (fun n => f_X12_pathOfNode n d 0 S [k, i]) (fun _ S1 => PaS S1 (pth V I) ∧ FC pnP S S1) := by
  have p325 := pth_325 hL hV hdp hI
  have fa : FC (ouP 0) S (gI S 517 0 0) := fc_gI (Or.inl ⟨rfl, rfl⟩)
  have o1 : OuS (gI S 517 0 0) 0 [] := ⟨gI_a, by decide, (fun i hi => by cases hi), fun x hx => by cases hx⟩
  refine ev_up (fun n => e_X12_pathOfNode_0) ?_
  unfold b_X12_pathOfNode_0
  refine ev_gg (by decide) ?_
  refine ev_gv ?_
  refine ev_gg (by first | omega | (constructor <;> omega)) ?_
  rw [show (0 : Int).toNat = 0 from rfl]
  refine ev_gc (q_putsPath (d := d - 1) (by omega) hk hK hi (lk_fr hL fa (fun j _ _ => by omega) (by omega)) hV hdp hI o1 (by decide)) (fun _ S1 q => ?_)
  obtain ⟨o2, f2⟩ := q
  rw [List.nil_append] at o2
  have f02 : FC pnP S S1 := fc_tr (fc_mono fa (fun c j z => Or.inl z)) (fc_mono f2 (fun c j z => by omega))
  refine ev_gv ?_
  rw [o2.1]
  refine ev_gg (by first | omega | (constructor <;> omega)) ?_
  refine ev_ite (fun _ => ?_) (fun z => by omega)
  refine ev_gv ?_
  refine ev_gv ?_
  have lp : ∀ (u i : Nat) (S2 : GS), i + u = (pth V I).length → FC paP S1 S2 → S2.1 500 29 = ((pth V I).length : Int) → (∀ j, j < i → S2.1 518 j = (pth V I).getD j 0) → Ev (fun n => f_X12_pathOfNode n d 43 S2 [(i : Int)]) (fun _ S1 => PaS S1 (pth V I) ∧ FC pnP S S1) := by
    intro u
    induction u with
    | zero =>
      intro i S2 hi f3 c29 cj
      refine ev_up (fun n => e_X12_pathOfNode_43) ?_
      unfold b_X12_pathOfNode_43
      refine ev_gv ?_
      rw [c29]
      refine ev_gg (by first | omega | (constructor <;> omega)) ?_
      refine ev_gg (by first | omega | (constructor <;> omega)) ?_
      refine ev_ite (fun _ => ?_) (fun z => by omega)
      exact ev_ret ⟨⟨c29, by omega, fun j hj => cj j (by omega), o2.2.2.2⟩, fc_tr f02 (fc_mono f3 (fun c j z => Or.inr (Or.inr z)))⟩
    | succ u ih =>
      intro i S2 hi f3 c29 cj
      have fb : FC paP S2 (gI S2 518 i ((pth V I).getD i 0)) := fc_gI (Or.inr rfl)
      have oi := o2.2.2.1 i (by omega)
      rw [show 40000 * 0 + i = i by omega] at oi
      refine ev_up (fun n => e_X12_pathOfNode_43) ?_
      unfold b_X12_pathOfNode_43
      refine ev_gv ?_
      rw [c29]
      refine ev_gg (by first | omega | (constructor <;> omega)) ?_
      refine ev_gg (by first | omega | (constructor <;> omega)) ?_
      refine ev_ite (fun z => by omega) (fun _ => ?_)
      refine ev_gg (by first | omega | (constructor <;> omega)) ?_
      refine ev_gv ?_
      rw [Int.toNat_natCast, fc_i f3 (by omega), oi]
      refine ev_gg (by first | omega | (constructor <;> omega)) ?_
      refine ev_gv ?_
      refine ev_gv ?_
      rw [show (i : Int) + 1 = ((i + 1 : Nat) : Int) by omega]
      refine ih (i + 1) _ (by omega) (fc_tr f3 fb) (by rw [gI_c (by decide)]; exact c29) (fun j hj => ?_)
      by_cases e : j = i
      · subst e; rw [gI_a]
      · rw [gI_k e]; exact cj j (by omega)
  exact lp (pth V I).length 0 _ (by omega) (fc_gI (Or.inl ⟨rfl, rfl⟩)) gI_a (fun j hj => absurd hj (Nat.not_lt_zero j))
/-- what is written comes behind the path -/
theorem pa_push {S2 : GS} {x : Int} (h : PaS S2 p) (hx : 0 ≤ x ∧ x < 256) (hl : p.length < 900) : PaS (gI (gI S2 518 p.length x) 500 29 ((p.length : Int) + 1)) (p ++ [x]) := by
  obtain ⟨a1, a2, a3, a4⟩ := h
  refine ⟨by rw [gI_a, List.length_append, List.length_singleton]; omega, by rw [List.length_append, List.length_singleton]; omega, fun i hi => ?_, fun y hy => ?_⟩
  · rw [List.length_append, List.length_singleton] at hi
    rw [gI_c (by decide), getD_snoc hi]
    by_cases e : i = p.length
    · subst e; rw [if_pos rfl, gI_a]
    · rw [if_neg e, gI_k (by omega)]
      exact a3 i (by omega)
  · rcases List.mem_append.mp hy with z | z
    · exact a4 y z
    · rw [List.mem_singleton] at z
      subst z
      exact hx
theorem pp_take {l : List Int} {i : Nat} (h : i < l.length) : p ++ l.take i ++ [l.getD i 0] = p ++ l.take (i + 1) := by
  rw [List.append_assoc, List.take_succ, List.getD_eq_getElem?_getD, List.getElem?_eq_getElem h]
  rfl
theorem q_addsStep {k i : Int} {I : Nat} (hd : 5 ≤ d) (hk : k = (K : Int)) (hK : K < 48) (hi : i = (I : Int)) (hL : LK S K V) (hV : TR V ∧ PZL V) (h1 : 1 ≤ I) (hI : I < V.length) (hp : PaS S p) (hl : p.length ≤ 800) : Ev (fun n => f_X12_addsStep n d 0 S [k, i]) (fun _ S1 => PaS S1 (p ++ stp V I) ∧ FC pnP S S1) := by
  have s25 := stp_le25 hL hI
  have fa : FC (ouP 0) S (gI S 517 0 0) := fc_gI (Or.inl ⟨rfl, rfl⟩)
  have o1 : OuS (gI S 517 0 0) 0 [] := ⟨gI_a, by decide, (fun i hi => by cases hi), fun x hx => by cases hx⟩
  refine ev_up (fun n => e_X12_addsStep_0) ?_
  unfold b_X12_addsStep_0
  refine ev_gg (by decide) ?_
  refine ev_gv ?_
  refine ev_gg (by first | omega | (constructor <;> omega)) ?_
  rw [show (0 : Int).toNat = 0 from rfl]
  refine ev_gc (q_putsStep (d := d - 1) (by omega) hk hK hi (lk_fr hL fa (fun j _ _ => by omega) (by omega)) hV h1 hI o1 (by decide)) (fun _ S1 q => ?_)
  obtain ⟨o2, f2⟩ := q
  rw [List.nil_append] at o2
  have f02 : FC pnP S S1 := fc_tr (fc_mono fa (fun c j z => Or.inl z)) (fc_mono f2 (fun c j z => by omega))
  have pa1 := pa_fr (pa_fr hp fa (by omega) (fun j => by omega)) f2 (by omega) (fun j => by omega)
  have lp : ∀ (u i : Nat) (S2 : GS), i + u = (stp V I).length → FC paP S1 S2 → PaS S2 (p ++ (stp V I).take i) → Ev (fun n => f_X12_addsStep n d 15 S2 [(i : Int)]) (fun _ S1 => PaS S1 (p ++ stp V I) ∧ FC pnP S S1) := by
    intro u
    induction u with
    | zero =>
      intro i S2 hi f3 pa
      rw [List.take_of_length_le (by omega)] at pa
      refine ev_up (fun n => e_X12_addsStep_15) ?_
      unfold b_X12_addsStep_15
      refine ev_gg (by decide) ?_
      refine ev_gv ?_
      rw [show (0 : Int).toNat = 0 from rfl, fc_i f3 (by omega), o2.1]
      refine ev_gg (by first | omega | (constructor <;> omega)) ?_
      refine ev_gg (by first | omega | (constructor <;> omega)) ?_
      refine ev_ite (fun _ => ?_) (fun z => by omega)
      exact ev_ret ⟨pa, fc_tr f02 (fc_mono f3 (fun c j z => Or.inr (Or.inr z)))⟩
    | succ u ih =>
      intro i S2 hi f3 pa
      have oi := o2.2.2.1 i (by omega)
      rw [show 40000 * 0 + i = i by omega] at oi
      have or_ := o2.2.2.2 _ (getD_in (q := stp V I) (t := i) (by omega))
      have pl : (p ++ (stp V I).take i).length = p.length + i := by rw [List.length_append, List.length_take]; omega
      refine ev_up (fun n => e_X12_addsStep_15) ?_
      unfold b_X12_addsStep_15
      refine ev_gg (by decide) ?_
      refine ev_gv ?_
      rw [show (0 : Int).toNat = 0 from rfl, fc_i f3 (by omega), o2.1]
      refine ev_gg (by first | omega | (constructor <;> omega)) ?_
      refine ev_gg (by first | omega | (constructor <;> omega)) ?_
      refine ev_ite (fun z => by omega) (fun _ => ?_)
      refine ev_gv ?_
      rw [pa.1]
      refine ev_gg (by first | omega | (constructor <;> omega)) ?_
      refine ev_gv ?_
      rw [show ((i : Nat) : Int).toNat = i from Int.toNat_natCast i, fc_i f3 (by omega), oi]
      refine ev_gg (by first | omega | (constructor <;> omega)) ?_
      refine ev_gv ?_
      rw [Int.toNat_natCast]
      refine ev_gv ?_
      rw [gI_c (by decide), pa.1]
      refine ev_gv ?_
      refine ev_gv ?_
      refine ev_gv ?_
      rw [show (i : Int) + 1 = ((i + 1 : Nat) : Int) by omega]
      refine ih (i + 1) _ (by omega) (fc_tr f3 (fc_tr (fc_gI (Or.inr rfl)) (fc_gI (Or.inl ⟨rfl, rfl⟩)))) ?_
      rw [← pp_take (by omega)]
      exact pa_push pa or_ (by omega)
  exact lp (stp V I).length 0 S1 (by omega) fc_rf (by rw [List.take_zero, List.append_nil]; exact pa1)
theorem q_addsPlace {a : Int} {A : Nat} (hd : 3 ≤ d) (ha : a = (A : Int)) (hA : A ≤ 99) (hp : PaS S p) (hl : p.length ≤ 800) : Ev (fun n => f_X12_addsPlace n d 0 S [a]) (fun _ S1 => PaS S1 (p ++ 47 :: wnum (A : Int)) ∧ FC pnP S S1) := by
  subst ha
  have fa : FC (ouP 0) S (gI S 517 0 0) := fc_gI (Or.inl ⟨rfl, rfl⟩)
  have o1 : OuS (gI S 517 0 0) 0 [] := ⟨gI_a, by decide, (fun i hi => by cases hi), fun x hx => by cases hx⟩
  refine ev_up (fun n => e_X12_addsPlace_0) ?_
  unfold b_X12_addsPlace_0
  refine ev_gg (by decide) ?_
  refine ev_gv ?_
  refine ev_gg (by first | omega | (constructor <;> omega)) ?_
  rw [show (0 : Int).toNat = 0 from rfl]
  refine ev_gc (q_puts (d := d - 1) (t := 0) rfl (by decide) o1 (by decide) (by decide)) (fun _ S1 q => ?_)
  obtain ⟨o2, f2⟩ := q
  refine ev_gc (q_putsInt (d := d - 1) (t := 0) (v := (A : Int)) (by omega) rfl (by decide) (by omega) o2 (by decide)) (fun _ S2 q => ?_)
  obtain ⟨o3, f3⟩ := q
  have eo : [] ++ [47] ++ wnum (A : Int) = 47 :: wnum (A : Int) := rfl
  rw [eo] at o3
  have wl : (47 :: wnum (A : Int)).length ≤ 5 := by
    rw [List.length_cons]
    have := wnum_l4 (A : Int)
    omega
  have pa2 := pa_fr (pa_fr (pa_fr hp fa (by omega) (fun j => by omega)) f2 (by omega) (fun j => by omega)) f3 (by omega) (fun j => by omega)
  have f03 : FC pnP S S2 := fc_tr (fc_mono fa (fun c j z => Or.inl z)) (fc_tr (fc_mono f2 (fun c j z => Or.inl z)) (fc_mono f3 (fun c j z => Or.inl z)))
  generalize 47 :: wnum (A : Int) = w at o3 wl ⊢
  have lp : ∀ (u i : Nat) (S3 : GS), i + u = w.length → FC paP S2 S3 → PaS S3 (p ++ w.take i) → Ev (fun n => f_X12_addsPlace n d 22 S3 [(i : Int)]) (fun _ S1 => PaS S1 (p ++ w) ∧ FC pnP S S1) := by
    intro u
    induction u with
    | zero =>
      intro i S3 hi f4 pa
      rw [List.take_of_length_le (by omega)] at pa
      refine ev_up (fun n => e_X12_addsPlace_22) ?_
      unfold b_X12_addsPlace_22
      refine ev_gg (by decide) ?_
      refine ev_gv ?_
      rw [show (0 : Int).toNat = 0 from rfl, fc_i f4 (by omega), o3.1]
      refine ev_gg (by first | omega | (constructor <;> omega)) ?_
      refine ev_gg (by first | omega | (constructor <;> omega)) ?_
      refine ev_ite (fun _ => ?_) (fun z => by omega)
      exact ev_ret ⟨pa, fc_tr f03 (fc_mono f4 (fun c j z => Or.inr (Or.inr z)))⟩
    | succ u ih =>
      intro i S3 hi f4 pa
      have oi := o3.2.2.1 i (by omega)
      rw [show 40000 * 0 + i = i by omega] at oi
      have or_ := o3.2.2.2 _ (getD_in (q := w) (t := i) (by omega))
      have pl : (p ++ w.take i).length = p.length + i := by rw [List.length_append, List.length_take]; omega
      refine ev_up (fun n => e_X12_addsPlace_22) ?_
      unfold b_X12_addsPlace_22
      refine ev_gg (by decide) ?_
      refine ev_gv ?_
      rw [show (0 : Int).toNat = 0 from rfl, fc_i f4 (by omega), o3.1]
      refine ev_gg (by first | omega | (constructor <;> omega)) ?_
      refine ev_gg (by first | omega | (constructor <;> omega)) ?_
      refine ev_ite (fun z => by omega) (fun _ => ?_)
      refine ev_gv ?_
      rw [pa.1]
      refine ev_gg (by first | omega | (constructor <;> omega)) ?_
      refine ev_gv ?_
      rw [show ((i : Nat) : Int).toNat = i from Int.toNat_natCast i, fc_i f4 (by omega), oi]
      refine ev_gg (by first | omega | (constructor <;> omega)) ?_
      refine ev_gv ?_
      rw [Int.toNat_natCast]
      refine ev_gv ?_
      rw [gI_c (by decide), pa.1]
      refine ev_gv ?_
      refine ev_gv ?_
      refine ev_gv ?_
      rw [show (i : Int) + 1 = ((i + 1 : Nat) : Int) by omega]
      refine ih (i + 1) _ (by omega) (fc_tr f4 (fc_tr (fc_gI (Or.inr rfl)) (fc_gI (Or.inl ⟨rfl, rfl⟩)))) ?_
      rw [← pp_take (by omega)]
      exact pa_push pa or_ (by omega)
  exact lp w.length 0 S2 (by omega) fc_rf (by rw [List.take_zero, List.append_nil]; exact pa2)
end RPH
