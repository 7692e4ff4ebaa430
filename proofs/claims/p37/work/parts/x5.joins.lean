/-! p37: joined, whichever is told first -/
section XJO
variable {S : GS} {Ds : List (List ND)} {d : Nat} {XL : Nat} {XS : Nat → Int} {a b c : Int} {V U W T Z : List ND}
theorem l_tryJoin (h : St Ds S) (hd : 81 ≤ d) (ia : Is Ds a V) (ib : Is Ds b U) (ic : Is Ds c W) (h4 : Ds.length < 40) (hk : (jnD V U W).2 = [] → DOC (jnD V U W).1.flatten) : Ev (fun m => f_L_tryJoin XL XS m d 0 S [a, b, c]) (fun x S1 => ((jnD V U W).2 = [] ∧ x = (Ds.length : Int) ∧ St (Ds ++ [(jnD V U W).1.flatten]) S1) ∨ (x = -1 ∧ (1 ≤ (jnD V U W).2.length ∧ (jnD V U W).2.length ≤ 200) ∧ St Ds S1 ∧ ∀ D : Nat, 1 ≤ D → Rd (fun m => f_X11_quarrels m D 0 S1 []) ((jnD V U W).2.length : Int) S1)) := by
  have ex := ex_e
  show Ev (fun n => gg (1 ≤ d) <| gc (f_X11_join n (d - 1) 0 S [a, b, c]) fun x1 S1 => if x1 < exB then some (x1, S1) else if x1 = exB + 2 then some (-2, S1) else none) _
  refine ev_gg (by first | omega | (constructor <;> omega)) ?_
  refine ev_gc (k_join (d := d - 1) h (by omega) ia ib ic h4 hk) (fun x S1 q => ?_)
  have lx : x < exB := by
    have n4 := st_40 h
    rcases q with ⟨_, q, _⟩ | ⟨q, _⟩ <;> omega
  refine ev_ite (fun _ => ?_) (fun z => absurd lx z)
  exact ev_ret q
theorem l_jn183 (hd : 100 ≤ d) (h : St Ds S) (h4 : Ds.length ≤ 30) (ia : Is Ds a V) (ib : Is Ds b U) : Ev (fun m => f_L_joins XL XS m d 183 S [a, b, (Ds.length : Int), 1]) (fun x S1 => x = 1 ∧ St Ds S1) := by
  have ex := ex_e
  have dV := is_doc h ia
  have dU := is_doc h ib
  have jb := join_both dV dU
  refine ev_up (fun n => e_L_joins_183) ?_
  unfold b_L_joins_183
  refine ev_gg (by first | omega | (constructor <;> omega)) ?_
  refine ev_gc (l_tryJoin (d := d - 1) h (by omega) ia ib ib (by omega) (fun _ => jb.2.1)) (fun x S1 q => ?_)
  rcases q with ⟨_, q1, q2⟩ | ⟨_, q1, _⟩
  · subst q1
    refine ev_gg (by decide) ?_
    refine ev_ite (fun z => absurd z (by decide)) (fun _ => ?_)
    refine ev_gg (by first | omega | (constructor <;> omega)) ?_
    refine ev_gg (by first | omega | (constructor <;> omega)) ?_
    refine ev_ite (fun z => absurd rfl z) (fun _ => ?_)
    refine ev_gcr (k_equal1 (d := d - 1) q2 (by omega) (is_new rfl) (is_app ib) jb.2.2) ?_
    refine ev_ite (fun _ => ?_) (fun z => by omega)
    refine ev_gg (by decide) ?_
    refine ev_ite (fun z => absurd z (by decide)) (fun _ => ?_)
    refine ev_gc (k_undo (d := d - 1) q2) (fun y S2 p => ?_)
    obtain ⟨p1, p2⟩ := p
    subst p1
    refine ev_ite (fun _ => ?_) (fun z => by omega)
    refine ev_gg (by first | omega | (constructor <;> omega)) ?_
    refine ev_ite (fun z => absurd rfl z) (fun _ => ?_)
    exact ev_ret ⟨rfl, p2⟩
  · rw [jb.1] at q1
    exact absurd q1.1 (by decide)
theorem l_jn119 (hd : 100 ≤ d) (h4 : Ds.length ≤ 30) (ia : Is Ds a V) (ib : Is Ds b U) (ic : Is Ds c W) : ∀ (n : Nat) (X : List (List ND)) (S : GS), X.length = n → St (Ds ++ X) S → Ev (fun m => f_L_joins XL XS m d 119 S [a, b, c, (Ds.length : Int), 1]) (fun x S1 => x = 1 ∧ St Ds S1)
  | 0, X, S, hn, h => by
    have ex := ex_e
    have eX : X = [] := List.eq_nil_of_length_eq_zero hn
    subst eX
    rw [List.append_nil] at h
    have dV := is_doc h ia
    have dW := is_doc h ic
    have js := join_same dV dW
    refine ev_up (fun n => e_L_joins_119) ?_
    unfold b_L_joins_119
    refine ev_gg (by first | omega | (constructor <;> omega)) ?_
    refine ev_gcr (k_sum0 (d := d - 1) h (by omega)) ?_
    refine ev_ite (fun _ => ?_) (fun z => by omega)
    refine ev_gg (by first | omega | (constructor <;> omega)) ?_
    refine ev_gg (by first | omega | (constructor <;> omega)) ?_
    refine ev_ite (fun _ => ?_) (fun z => absurd (Int.le_refl _) z)
    refine ev_gc (l_tryJoin (d := d - 1) h (by omega) ia ia ic (by omega) (fun _ => js.2.1)) (fun x S1 q => ?_)
    rcases q with ⟨_, q1, q2⟩ | ⟨_, q1, _⟩
    · subst q1
      refine ev_gg (by decide) ?_
      refine ev_ite (fun z => absurd z (by decide)) (fun _ => ?_)
      refine ev_gg (by first | omega | (constructor <;> omega)) ?_
      refine ev_ite (fun z => absurd rfl z) (fun _ => ?_)
      refine ev_gcr (k_equal1 (d := d - 1) q2 (by omega) (is_new rfl) (is_app ic) js.2.2) ?_
      refine ev_ite (fun _ => ?_) (fun z => by omega)
      refine ev_gg (by decide) ?_
      refine ev_ite (fun z => absurd z (by decide)) (fun _ => ?_)
      refine ev_gc (k_undo (d := d - 1) q2) (fun y S2 p => ?_)
      obtain ⟨p1, p2⟩ := p
      subst p1
      refine ev_ite (fun _ => ?_) (fun z => by omega)
      refine ev_gg (by first | omega | (constructor <;> omega)) ?_
      refine ev_ite (fun z => absurd rfl z) (fun _ => ?_)
      exact l_jn183 hd p2 h4 ia ib
    · rw [js.1] at q1
      exact absurd q1.1 (by decide)
  | n + 1, X, S, hn, h => by
    have ex := ex_e
    obtain ⟨Y, T, rfl, lY⟩ := snoc_of X n hn
    rw [← List.append_assoc] at h
    have n4 := st_40 h
    have el : ((Ds ++ Y) ++ [T]).length = Ds.length + n + 1 := by rw [List.length_append, List.length_append, List.length_singleton, lY]
    rw [el] at n4
    refine ev_up (fun n => e_L_joins_119) ?_
    unfold b_L_joins_119
    refine ev_gg (by first | omega | (constructor <;> omega)) ?_
    refine ev_gcr (rd_as (k_sum0 (d := d - 1) h (by omega)) (show (((Ds ++ Y) ++ [T]).length : Int) = (Ds.length : Int) + n + 1 by rw [el]; omega)) ?_
    refine ev_ite (fun _ => ?_) (fun z => by omega)
    refine ev_gg (by first | omega | (constructor <;> omega)) ?_
    refine ev_gg (by first | omega | (constructor <;> omega)) ?_
    refine ev_ite (fun z => by omega) (fun _ => ?_)
    refine ev_gc (k_undo (d := d - 1) h) (fun x S1 q => ?_)
    have lq : (Ds ++ Y).length = Ds.length + n := by rw [List.length_append, lY]
    rw [lq] at q
    obtain ⟨q1, q2⟩ := q
    refine ev_ite (fun _ => ?_) (fun z => by omega)
    exact l_jn119 hd h4 ia ib ic n Y S1 lY q2
theorem l_joins (hd : 110 ≤ d) (h : St Ds S) (h4 : Ds.length ≤ 30) (ia : Is Ds a V) (ib : Is Ds b U) (ic : Is Ds c W) (hl : U.length + W.length ≤ 100) : Ev (fun m => f_L_joins XL XS m d 0 S [a, b, c]) (fun x S1 => x = 1 ∧ St Ds S1) := by
  have ex := ex_e
  have dV := is_doc h ia
  have dU := is_doc h ib
  have dW := is_doc h ic
  obtain ⟨jl, jk⟩ := join_ok dV dU dW hl
  refine ev_up (fun n => e_L_joins_0) ?_
  unfold b_L_joins_0
  refine ev_gg (by first | omega | (constructor <;> omega)) ?_
  refine ev_gcr (k_sum0 (d := d - 1) h (by omega)) ?_
  refine ev_ite (fun _ => ?_) (fun z => by omega)
  refine ev_gc (l_tryJoin (d := d - 1) h (by omega) ia ib ic (by omega) (fun z => (jk z).2.1)) (fun x S1 q => ?_)
  rcases q with ⟨q0, q1, q2⟩ | ⟨q1, q0, q2, q3⟩
  · subst q1
    obtain ⟨k0, k1, k2, k3⟩ := jk q0
    refine ev_gg (by first | omega | (constructor <;> omega)) ?_
    refine ev_ite (fun _ => ?_) (fun z => by omega)
    have l1 : (Ds ++ [(jnD V U W).1.flatten]).length = Ds.length + 1 := by rw [List.length_append, List.length_singleton]
    have n31 : ∀ s : Int, Ev (fun m => f_L_joins XL XS m d 31 S1 [a, b, c, (Ds.length : Int), (Ds.length : Int), s]) (fun x S1 => x = 1 ∧ St Ds S1) := by
      intro s
      refine ev_up (fun n => e_L_joins_31) ?_
      unfold b_L_joins_31
      refine ev_gg (by first | omega | (constructor <;> omega)) ?_
      refine ev_gc (l_tryJoin (d := d - 1) q2 (by omega) (is_app ia) (is_app ic) (is_app ib) (by omega) (fun _ => k2)) (fun y S2 p => ?_)
      rcases p with ⟨_, p1, p2⟩ | ⟨_, p1, _⟩
      · have p1 : y = (Ds.length : Int) + 1 := by
          rw [p1, l1]
          omega
        subst p1
        refine ev_gg (by first | omega | (constructor <;> omega)) ?_
        refine ev_ite (fun _ => ?_) (fun z => by omega)
        refine ev_gg (by first | omega | (constructor <;> omega)) ?_
        refine ev_ite (fun _ => ?_) (fun z => by omega)
        refine ev_up (fun n => e_L_joins_64) ?_
        unfold b_L_joins_64
        refine ev_gg (by decide) ?_
        refine ev_gg (by decide) ?_
        refine ev_ite (fun z => absurd rfl z) (fun _ => ?_)
        refine ev_gg (by first | omega | (constructor <;> omega)) ?_
        refine ev_ite (fun z => by omega) (fun _ => ?_)
        refine ev_gv ?_
        refine ev_gg (by first | omega | (constructor <;> omega)) ?_
        refine ev_gg (by first | omega | (constructor <;> omega)) ?_
        refine ev_ite (fun z => absurd rfl z) (fun _ => ?_)
        refine ev_gg (by first | omega | (constructor <;> omega)) ?_
        refine ev_gcr (k_equal1 (d := d - 1) p2 (by omega) (is_app (is_new rfl)) (is_new (by rw [l1]; omega)) k3) ?_
        refine ev_ite (fun _ => ?_) (fun z => by omega)
        refine ev_gg (by decide) ?_
        refine ev_ite (fun z => absurd z (by decide)) (fun _ => ?_)
        refine ev_up (fun n => e_L_joins_92) ?_
        unfold b_L_joins_92
        refine ev_gg (by first | omega | (constructor <;> omega)) ?_
        refine ev_ite (fun _ => ?_) (fun z => by omega)
        rw [List.append_assoc] at p2
        exact l_jn119 (by omega) h4 ia ib ic 2 ([(jnD V U W).1.flatten] ++ [(jnD V W U).1.flatten]) S2 rfl p2
      · rw [k0] at p1
        exact absurd p1.1 (by decide)
    obtain ⟨_, _, _, _, _, cl⟩ := id q2
    refine ev_gcr (t_quarrels (d := d - 1) (by omega) cl) ?_
    exact n31 _
  · subst q1
    refine ev_gg (by decide) ?_
    refine ev_ite (fun _ => ?_) (fun z => absurd (by decide) z)
    refine ev_gcr (q3 (d - 1) (by omega)) ?_
    have nz : (jnD V W U).2 ≠ [] := fun z => by
      rw [jl, z] at q0
      exact absurd q0.1 (by decide)
    refine ev_up (fun n => e_L_joins_31) ?_
    unfold b_L_joins_31
    refine ev_gg (by first | omega | (constructor <;> omega)) ?_
    refine ev_gc (l_tryJoin (d := d - 1) q2 (by omega) ia ic ib (by omega) (fun z => absurd z nz)) (fun y S2 p => ?_)
    rcases p with ⟨p0, _, _⟩ | ⟨p1, p0, p2, p3⟩
    · exact absurd p0 nz
    · subst p1
      refine ev_gg (by decide) ?_
      refine ev_ite (fun z => absurd rfl z) (fun _ => ?_)
      refine ev_gg (by decide) ?_
      refine ev_ite (fun z => absurd rfl z) (fun _ => ?_)
      refine ev_up (fun n => e_L_joins_64) ?_
      unfold b_L_joins_64
      refine ev_gg (by decide) ?_
      refine ev_gg (by decide) ?_
      refine ev_ite (fun z => absurd rfl z) (fun _ => ?_)
      refine ev_gg (by decide) ?_
      refine ev_ite (fun _ => ?_) (fun z => absurd (by decide) z)
      refine ev_up (fun n => e_L_joins_92) ?_
      unfold b_L_joins_92
      refine ev_gg (by decide) ?_
      refine ev_ite (fun z => absurd rfl z) (fun _ => ?_)
      refine ev_gg (by first | omega | (constructor <;> omega)) ?_
      refine ev_ite (fun z => by omega) (fun _ => ?_)
      refine ev_gg (by first | omega | (constructor <;> omega)) ?_
      refine ev_gcr (p3 (d - 1) (by omega)) ?_
      refine ev_gg (by first | omega | (constructor <;> omega)) ?_
      refine ev_ite (fun z => absurd (by omega) z) (fun _ => ?_)
      have p2' : St (Ds ++ []) S2 := by
        rw [List.append_nil]
        exact p2
      exact l_jn119 (by omega) h4 ia ib ic 0 [] S2 rfl p2'
end XJO
