/-! p37: a PATCH leads there, and, turned round, back -/
section XPA
variable {S : GS} {Ds : List (List ND)} {d : Nat} {XL : Nat} {XS : Nat → Int} {a b : Int} {V U W T T2 Z : List ND} {R : Int → GS → Prop}
theorem l_tryPatch (h : St Ds S) (hd : 81 ≤ d) (ia : Is Ds a V) (ib : Is Ds b U) (h4 : Ds.length < 40) : Ev (fun m => f_L_tryPatch XL XS m d 0 S [a, b]) (fun x S1 => match ptT V U with
    | none => x = -1 ∧ St Ds S1
    | some T => x = (Ds.length : Int) ∧ St (Ds ++ [T]) S1) := by
  have ex := ex_e
  show Ev (fun n => gg (1 ≤ d) <| gc (f_X11_patch n (d - 1) 0 S [a, b]) fun x1 S1 => if x1 < exB then some (x1, S1) else if x1 = exB + 2 then some (-1, S1) else none) _
  refine ev_gg (by first | omega | (constructor <;> omega)) ?_
  refine ev_gc (k_patch (d := d - 1) h (by omega) ia ib h4) (fun x S1 q => ?_)
  cases e : ptT V U with
  | none =>
    rw [e] at q
    obtain ⟨q1, q2⟩ := q
    refine ev_ite (fun z => by omega) (fun _ => ?_)
    refine ev_ite (fun _ => ?_) (fun z => absurd q1 z)
    exact ev_ret ⟨rfl, q2⟩
  | some T =>
    rw [e] at q
    obtain ⟨q1, q2⟩ := q
    refine ev_ite (fun _ => ?_) (fun z => by omega)
    exact ev_ret ⟨q1, q2⟩
theorem l_tryTurn (h : St Ds S) (hd : 81 ≤ d) (ia : Is Ds a V) (ib : Is Ds b U) (h4 : Ds.length < 40) (hk : rk U = 4) : Ev (fun m => f_L_tryTurn XL XS m d 0 S [a, b]) (fun x S1 => match tuT U V with
    | none => x = -1 ∧ St Ds S1
    | some T => x = (Ds.length : Int) ∧ St (Ds ++ [T]) S1) := by
  have ex := ex_e
  show Ev (fun n => gg (1 ≤ d) <| gc (f_X11_turn n (d - 1) 0 S [a, b]) fun x1 S1 => if x1 < exB then some (x1, S1) else if x1 = exB + 2 then some (-1, S1) else none) _
  refine ev_gg (by first | omega | (constructor <;> omega)) ?_
  refine ev_gc (k_turn (d := d - 1) h (by omega) ia ib h4 hk) (fun x S1 q => ?_)
  cases e : tuT U V with
  | none =>
    rw [e] at q
    obtain ⟨q1, q2⟩ := q
    refine ev_ite (fun z => by omega) (fun _ => ?_)
    refine ev_ite (fun _ => ?_) (fun z => absurd q1 z)
    exact ev_ret ⟨rfl, q2⟩
  | some T =>
    rw [e] at q
    obtain ⟨q1, q2⟩ := q
    refine ev_ite (fun _ => ?_) (fun z => by omega)
    exact ev_ret ⟨q1, q2⟩
/-- what was made on the way goes -/
theorem l_pt154 (hd : 100 ≤ d) : ∀ (n : Nat) (X : List (List ND)) (S : GS), X.length = n → St (Ds ++ X) S → Ev (fun m => f_L_patches XL XS m d 154 S [(Ds.length : Int), 1]) (fun x S1 => x = 1 ∧ St Ds S1)
  | 0, X, S, hn, h => by
    have ex := ex_e
    have eX : X = [] := List.eq_nil_of_length_eq_zero hn
    subst eX
    rw [List.append_nil] at h
    have n4 := st_40 h
    refine ev_up (fun n => e_L_patches_154) ?_
    unfold b_L_patches_154
    refine ev_gg (by first | omega | (constructor <;> omega)) ?_
    refine ev_gcr (k_sum0 (d := d - 1) h (by omega)) ?_
    refine ev_ite (fun _ => ?_) (fun z => by omega)
    refine ev_gg (by first | omega | (constructor <;> omega)) ?_
    refine ev_gg (by first | omega | (constructor <;> omega)) ?_
    refine ev_ite (fun _ => ?_) (fun z => absurd (Int.le_refl _) z)
    refine ev_gg (Or.inr rfl) ?_
    exact ev_ret ⟨rfl, h⟩
  | n + 1, X, S, hn, h => by
    have ex := ex_e
    obtain ⟨Y, W, rfl, lY⟩ := snoc_of X n hn
    rw [← List.append_assoc] at h
    have n4 := st_40 h
    have el : ((Ds ++ Y) ++ [W]).length = Ds.length + n + 1 := by rw [List.length_append, List.length_append, List.length_singleton, lY]
    rw [el] at n4
    refine ev_up (fun n => e_L_patches_154) ?_
    unfold b_L_patches_154
    refine ev_gg (by first | omega | (constructor <;> omega)) ?_
    refine ev_gcr (rd_as (k_sum0 (d := d - 1) h (by omega)) (show (((Ds ++ Y) ++ [W]).length : Int) = (Ds.length : Int) + n + 1 by rw [el]; omega)) ?_
    refine ev_ite (fun _ => ?_) (fun z => by omega)
    refine ev_gg (by first | omega | (constructor <;> omega)) ?_
    refine ev_gg (by first | omega | (constructor <;> omega)) ?_
    refine ev_ite (fun z => by omega) (fun _ => ?_)
    refine ev_gc (k_undo (d := d - 1) h) (fun x S1 q => ?_)
    have lq : (Ds ++ Y).length = Ds.length + n := by rw [List.length_append, lY]
    rw [lq] at q
    obtain ⟨q1, q2⟩ := q
    refine ev_ite (fun _ => ?_) (fun z => by omega)
    exact l_pt154 hd n Y S1 lY q2
theorem rk_len (hT : DOC T) (h4 : rk T = 4) : abI T 0 3 = ((kd T).length : Int) := by
  have l1 := hT.1.1.1.2.1
  have k2 := kd_sg hT.1.1.2 hT.1.1.1.1 (i := 0) (by omega)
  rw [sg_self hT.1.1.1] at k2
  have n4 : nk T 0 = 4 := h4
  rw [ab_3]
  unfold lnI
  rw [if_pos (by omega)]
  show (if nk T 0 = 3 then ((nt T 0).length : Int) else if 4 ≤ nk T 0 then ((kids T 0).length : Int) else -1) = _
  rw [if_neg (by omega), if_pos (by omega), k2, List.length_map]
theorem kd_100 (hT : DOC T) : (kd T).length ≤ 100 := by
  have l1 := len_kd hT.1.1
  have l2 : ∀ E : List (List ND), (∀ t ∈ E, 1 ≤ t.length) → E.length ≤ E.flatten.length := by
    intro E
    induction E with
    | nil => intro _; exact Nat.le_refl _
    | cons t E ih =>
      intro h
      have := ih (fun u hu => h u (List.mem_cons_of_mem _ hu))
      have := h t List.mem_cons_self
      rw [List.flatten_cons, List.length_append, List.length_cons]
      omega
  have := l2 (kd T) (fun t ht => (kd_tr hT.1.1.1 hT.1.1.2 t ht).1.2.1)
  have := hT.2.2.1
  omega
theorem l_pt79 (hd : 100 ≤ d) (h : St (Ds ++ [T] ++ [W]) S) (h4 : Ds.length ≤ 30) (ia : Is Ds a V) (hk : rk T = 4) (hT : ∀ T2, tuT T V = some T2 → rk T2 = 4 ∧ (kd T2).length = (kd T).length ∧ ∃ Z, laF T2 (kids T2 0) 0 W = .inr Z ∧ DOC Z ∧ EK Z V) : Ev (fun m => f_L_patches XL XS m d 79 S [a, (Ds.length : Int), (Ds.length : Int), (Ds.length : Int) + 1, 1]) (fun x S1 => x = 1 ∧ St Ds S1) := by
  have ex := ex_e
  have l1 : (Ds ++ [T]).length = Ds.length + 1 := by rw [List.length_append, List.length_singleton]
  have l2 : (Ds ++ [T] ++ [W]).length = Ds.length + 2 := by rw [List.length_append, List.length_singleton, l1]
  have iT : Is (Ds ++ [T] ++ [W]) (Ds.length : Int) T := is_app (is_new rfl)
  have iW : Is (Ds ++ [T] ++ [W]) ((Ds.length : Int) + 1) W := is_new (by rw [l1]; omega)
  have iV : Is (Ds ++ [T] ++ [W]) a V := is_app (is_app ia)
  have dT := is_doc h iT
  have rT := kd_100 dT
  refine ev_up (fun n => e_L_patches_79) ?_
  unfold b_L_patches_79
  refine ev_gg (by first | omega | (constructor <;> omega)) ?_
  refine ev_gc (l_tryTurn (d := d - 1) h (by omega) iV iT (by omega) hk) (fun x S1 q => ?_)
  cases e : tuT T V with
  | none =>
    rw [e] at q
    obtain ⟨q1, q2⟩ := q
    subst q1
    refine ev_gg (by decide) ?_
    refine ev_ite (fun _ => ?_) (fun z => absurd (by decide) z)
    rw [List.append_assoc] at q2
    exact l_pt154 hd 2 ([T] ++ [W]) S1 rfl q2
  | some T2 =>
    rw [e] at q
    obtain ⟨q1, q2⟩ := q
    obtain ⟨t1, t2, Z, t3, t4, t5⟩ := hT T2 e
    rw [l2] at q1
    subst q1
    have l3 : (Ds ++ [T] ++ [W] ++ [T2]).length = Ds.length + 3 := by rw [List.length_append, List.length_singleton, l2]
    have iT2 : Is (Ds ++ [T] ++ [W] ++ [T2]) ((Ds.length + 2 : Nat) : Int) T2 := is_new (by rw [l2])
    have dT2 := is_doc q2 iT2
    refine ev_gg (by first | omega | (constructor <;> omega)) ?_
    refine ev_ite (fun z => by omega) (fun _ => ?_)
    refine ev_gc (k_lay (d := d - 1) q2 (by omega) (is_app iW) iT2 (by omega) t1 t3) (fun y S2 p => ?_)
    obtain ⟨p1, p2⟩ := p
    rw [l3] at p1
    subst p1
    have iZ : Is (Ds ++ [T] ++ [W] ++ [T2] ++ [Z]) ((Ds.length + 3 : Nat) : Int) Z := is_new (by rw [l3])
    refine ev_ite (fun _ => ?_) (fun z => by omega)
    refine ev_gg (by decide) ?_
    refine ev_ite (fun z => absurd z (by decide)) (fun _ => ?_)
    refine ev_gv ?_
    refine ev_gg (by first | omega | (constructor <;> omega)) ?_
    refine ev_gg (by first | omega | (constructor <;> omega)) ?_
    refine ev_ite (fun z => absurd (by omega) z) (fun _ => ?_)
    refine ev_gcr (k_equal1 (d := d - 1) p2 (by omega) iZ (is_app (is_app iV)) t5) ?_
    refine ev_ite (fun _ => ?_) (fun z => by omega)
    refine ev_gg (by decide) ?_
    refine ev_ite (fun z => absurd z (by decide)) (fun _ => ?_)
    have lT2 := dT2.1.1.1.2.1
    have lT := dT.1.1.1.2.1
    refine ev_gcr (rd_as (k_node (d := d - 1) (i := 0) (w := 3) p2 (by omega) (is_app iT2) ⟨by omega, by omega⟩ (by decide)) (show abI T2 0 3 = ((kd T).length : Int) by rw [rk_len dT2 t1, t2])) ?_
    refine ev_ite (fun _ => ?_) (fun z => by omega)
    refine ev_gcr (rd_as (k_node (d := d - 1) (i := 0) (w := 3) p2 (by omega) (is_app (is_app iT)) ⟨by omega, by omega⟩ (by decide)) (show abI T 0 3 = ((kd T).length : Int) from rk_len dT hk)) ?_
    refine ev_ite (fun _ => ?_) (fun z => by omega)
    refine ev_gg (by first | omega | (constructor <;> omega)) ?_
    refine ev_gg (by first | omega | (constructor <;> omega)) ?_
    refine ev_ite (fun z => absurd rfl z) (fun _ => ?_)
    rw [List.append_assoc, List.append_assoc, List.append_assoc] at p2
    exact l_pt154 hd 4 ([T] ++ ([W] ++ ([T2] ++ [Z]))) S2 rfl p2
theorem l_patches (hd : 110 ≤ d) (h : St Ds S) (h4 : Ds.length ≤ 30) (ia : Is Ds a V) (ib : Is Ds b U) (hl : V.length + U.length ≤ 100) : Ev (fun m => f_L_patches XL XS m d 0 S [a, b]) (fun x S1 => x = 1 ∧ St Ds S1) := by
  have ex := ex_e
  have dV := is_doc h ia
  have dU := is_doc h ib
  refine ev_up (fun n => e_L_patches_0) ?_
  unfold b_L_patches_0
  refine ev_gg (by first | omega | (constructor <;> omega)) ?_
  refine ev_gcr (k_sum0 (d := d - 1) h (by omega)) ?_
  refine ev_ite (fun _ => ?_) (fun z => by omega)
  refine ev_gc (l_tryPatch (d := d - 1) h (by omega) ia ib (by omega)) (fun x S1 q => ?_)
  cases e : ptT V U with
  | none =>
    rw [e] at q
    obtain ⟨q1, q2⟩ := q
    subst q1
    refine ev_gg (by decide) ?_
    refine ev_ite (fun _ => ?_) (fun z => absurd (by decide) z)
    refine l_pt154 (by omega) 0 [] S1 rfl ?_
    rw [List.append_nil]
    exact q2
  | some T =>
    rw [e] at q
    obtain ⟨q1, q2⟩ := q
    subst q1
    obtain ⟨t1, t2, W, t3, t4, t5, t6⟩ := patch_ok dV dU hl e
    have l1 : (Ds ++ [T]).length = Ds.length + 1 := by rw [List.length_append, List.length_singleton]
    have iT : Is (Ds ++ [T]) (Ds.length : Int) T := is_new rfl
    have dT := is_doc q2 iT
    have rT := kd_100 dT
    have lT := dT.1.1.1.2.1
    refine ev_gg (by first | omega | (constructor <;> omega)) ?_
    refine ev_ite (fun z => by omega) (fun _ => ?_)
    refine ev_gc (k_lay (d := d - 1) q2 (by omega) (is_app ia) iT (by omega) t1 t3) (fun y S2 p => ?_)
    obtain ⟨p1, p2⟩ := p
    have p1 : y = (Ds.length : Int) + 1 := by
      rw [p1, l1]
      omega
    subst p1
    have iW : Is (Ds ++ [T] ++ [W]) ((Ds.length : Int) + 1) W := is_new (by rw [l1]; omega)
    refine ev_ite (fun _ => ?_) (fun z => by omega)
    refine ev_gv ?_
    refine ev_gg (by first | omega | (constructor <;> omega)) ?_
    refine ev_gg (by first | omega | (constructor <;> omega)) ?_
    refine ev_ite (fun z => absurd rfl z) (fun _ => ?_)
    refine ev_gcr (k_equal1 (d := d - 1) p2 (by omega) iW (is_app (is_app ib)) t5) ?_
    refine ev_ite (fun _ => ?_) (fun z => by omega)
    refine ev_gg (by decide) ?_
    refine ev_ite (fun z => absurd z (by decide)) (fun _ => ?_)
    refine ev_gcr (rd_as (k_node (d := d - 1) (i := 0) (w := 3) p2 (by omega) (is_app iT) ⟨by omega, by omega⟩ (by decide)) (show abI T 0 3 = ((kd T).length : Int) from rk_len dT t1)) ?_
    refine ev_ite (fun _ => ?_) (fun z => by omega)
    refine ev_gg (by first | omega | (constructor <;> omega)) ?_
    have fin : ∀ s : Int, (s = 1 ∧ EK V U ∨ s = 0 ∧ ¬ EK V U) → Ev (fun m => f_L_patches XL XS m d 65 S2 [a, b, (Ds.length : Int), (Ds.length : Int), (Ds.length : Int) + 1, s]) (fun x S1 => x = 1 ∧ St Ds S1) := by
      intro s hs
      obtain ⟨e2, he, k⟩ := k_equal (d := d - 1) p2 (by omega) (is_app (is_app ia)) (is_app (is_app ib))
      have es : s = e2 ∧ (s = 0 ∨ s = 1) := by
        rcases hs with ⟨z1, z2⟩ | ⟨z1, z2⟩
        · rcases he with ⟨y1, y2⟩ | ⟨y1, y2⟩
          · exact ⟨z1.trans y1.symm, Or.inr z1⟩
          · exact absurd z2 y2
        · rcases he with ⟨y1, y2⟩ | ⟨y1, y2⟩
          · exact absurd y2 z2
          · exact ⟨z1.trans y1.symm, Or.inl z1⟩
      refine ev_up (fun n => e_L_patches_65) ?_
      unfold b_L_patches_65
      refine ev_gg (by first | omega | (constructor <;> omega)) ?_
      refine ev_gcr k ?_
      refine ev_ite (fun _ => ?_) (fun z => by omega)
      refine ev_gg (by first | omega | (constructor <;> omega)) ?_
      refine ev_gg (by first | omega | (constructor <;> omega)) ?_
      refine ev_ite (fun z => absurd es.1 z) (fun _ => ?_)
      exact l_pt79 (by omega) p2 h4 ia t1 t6
    refine ev_ite (fun z => ?_) (fun z => ?_)
    · exact fin 0 (Or.inr ⟨rfl, fun y => by have := t2.mpr y; omega⟩)
    · exact fin 1 (Or.inl ⟨rfl, t2.mp (by omega)⟩)
end XPA
