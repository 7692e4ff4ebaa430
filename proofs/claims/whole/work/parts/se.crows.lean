/-! THE CLASS's rows -/
theorem hoK_all {V : List ND} {q : Int} : ∀ (K : List Nat), hoK V q K = if ∀ x ∈ K, nk V x = q then 1 else 0
  | [] => by rw [if_pos (fun x hx => by cases hx)]; rfl
  | k :: K => by
    have e : hoK V q (k :: K) = if nk V k = q then hoK V q K else 0 := rfl
    rw [e, hoK_all K]
    by_cases c : nk V k = q
    · rw [if_pos c]
      by_cases c2 : ∀ x ∈ K, nk V x = q
      · rw [if_pos c2, if_pos (fun x hx => by
          rcases List.mem_cons.mp hx with z | z
          · rw [z]; exact c
          · exact c2 x z)]
      · rw [if_neg c2, if_neg (fun z => c2 (fun x hx => z x (List.mem_cons_of_mem _ hx)))]
    · rw [if_neg c, if_neg (fun z => c (z k List.mem_cons_self))]
theorem atK_get : ∀ (K : List Nat) (p : Nat), p < K.length → atK K (p : Int) = ((K.getD p 0 : Nat) : Int)
  | [], p, h => absurd h (Nat.not_lt_zero p)
  | k :: K, 0, _ => rfl
  | k :: K, p + 1, h => by
    have e : atK (k :: K) ((p + 1 : Nat) : Int) = if ((p + 1 : Nat) : Int) = 0 then (k : Int) else atK K (((p + 1 : Nat) : Int) - 1) := rfl
    rw [e, if_neg (by omega), show ((p + 1 : Nat) : Int) - 1 = (p : Int) by omega, atK_get K p (by rw [List.length_cons] at h; omega)]
    rfl
section CRW
variable {S S0 : GS} {c d : Nat} {A : List ND}
theorem t_isByColumns (hc : gT c) (hd : 6 ≤ d) (hv : TV S c A) (dA : DOC A) : Rd (fun n => f_X11_isByColumns n d 0 S [((c : Nat) : Int)]) (if tbQ A then 1 else 0) S := by
  have hV0 := dA.1.1
  have wA := hV0.1.1
  have zA := pz_l hV0.2
  have l1 := hV0.1.2.1
  have l100 := dA.2.2.1
  have w0 := wA.1 0 (by omega)
  have z0 := zA 0
  have rk0 : rk A = nk A 0 := rfl
  have lp : ∀ (K : List Nat) (e n : Nat) (s : Int), ks A e (0 + nz A 0) = K → 0 < e → e ≤ 0 + nz A 0 → n + (0 + nz A 0 - e) ≤ 99 → (s = 0 ∨ s = 1) → 1 < A.length → Rd (fun m => f_X11_isByColumns m d 31 S [((c : Nat) : Int), 1, s, cur e (0 + nz A 0), (n : Int)]) (if s = 1 ∧ ∀ x ∈ K, (kids A x).length = (kids A 1).length then 1 else 0) S := by
    intro K
    induction K with
    | nil =>
      intro e n s he h0 hle hn hs hl1
      have ee : ¬ e < 0 + nz A 0 := fun z => by
        rw [ks_cons zA z] at he
        cases he
      have ec : cur e (0 + nz A 0) = -1 := if_neg ee
      rw [ec]
      refine ev_up (fun n => e_X11_isByColumns_31) ?_
      unfold b_X11_isByColumns_31
      refine ev_gg (by decide) ?_
      refine ev_ite (fun _ => ?_) (fun z => by omega)
      refine ev_gg (hs) ?_
      refine ev_ret ⟨?_, rfl⟩
      rcases hs with z | z
      · rw [z, if_neg (fun w => by have := w.1; omega)]
      · rw [z, if_pos ⟨rfl, fun x hx => by cases hx⟩]
    | cons k K ih =>
      intro e n s he h0 hle hn hs hl1
      have zl : e < 0 + nz A 0 := by
        by_cases z : e < 0 + nz A 0
        · exact z
        · rw [ks_nil (by omega)] at he
          cases he
      obtain ⟨rfl, eK⟩ : e = k ∧ ks A (e + nz A e) (0 + nz A 0) = K := by
        rw [ks_cons zA zl] at he
        exact List.cons.inj he
      have el : e < A.length := by omega
      have ze := zA e
      have we := wA.2.1 0 e h0 zl
      have ke := kids_100 wA zA l100 el
      have k1 := kids_100 wA zA l100 hl1
      have ec : cur e (0 + nz A 0) = (e : Int) := if_pos zl
      have nx : ∀ s2 : Int, (s2 = 0 ∨ s2 = 1) → Rd (fun m => f_X11_isByColumns m d 65 S [((c : Nat) : Int), 1, (e : Int), (n : Int), s2]) (if s2 = 1 ∧ ∀ x ∈ K, (kids A x).length = (kids A 1).length then 1 else 0) S := by
        intro s2 hs2
        refine ev_up (fun n => e_X11_isByColumns_65) ?_
        unfold b_X11_isByColumns_65
        refine ev_gg (by first | omega | (constructor <;> omega)) ?_
        refine ev_gg (hc) ?_
        refine ev_gcr (t_next (V := A) (g := 0) (k := e) (d := d - 1) hc hv wA h0 zl (by omega)) ?_
        refine ev_gv ?_
        rw [show (n : Int) + 1 = ((n + 1 : Nat) : Int) by omega]
        exact ih (e + nz A e) (n + 1) s2 eK (by omega) (by omega) (by omega) hs2 hl1
      rw [ec]
      refine ev_up (fun n => e_X11_isByColumns_31) ?_
      unfold b_X11_isByColumns_31
      refine ev_gg (by first | omega | (constructor <;> omega)) ?_
      refine ev_ite (fun z => by omega) (fun _ => ?_)
      refine ev_gg (by first | omega | (constructor <;> omega)) ?_
      refine ev_ite (fun z => by omega) (fun _ => ?_)
      rcases hs with z | z
      · subst z
        refine ev_gg (by decide) ?_
        refine ev_ite (fun _ => ?_) (fun z => by omega)
        have e2 : (if (0 : Int) = 1 ∧ ∀ x ∈ e :: K, (kids A x).length = (kids A 1).length then 1 else 0 : Int) = if (0 : Int) = 1 ∧ ∀ x ∈ K, (kids A x).length = (kids A 1).length then 1 else 0 := by
          rw [if_neg (fun w => by have := w.1; omega), if_neg (fun w => by have := w.1; omega)]
        rw [e2]
        exact nx 0 (Or.inl rfl)
      · subst z
        refine ev_gg (by decide) ?_
        refine ev_ite (fun w => absurd w (by decide)) (fun _ => ?_)
        refine ev_gg (by first | omega | (constructor <;> omega)) ?_
        refine ev_gg (hc) ?_
        refine ev_gcr (t_values (V := A) (g := e) (d := d - 1) hc hv wA el (by omega)) ?_
        refine ev_gcr (t_values (V := A) (g := 1) (d := d - 1) hc hv wA hl1 (by omega)) ?_
        refine ev_gg (by first | omega | (constructor <;> omega)) ?_
        refine ev_gg (by first | omega | (constructor <;> omega)) ?_
        refine ev_ite (fun w => ?_) (fun w => ?_)
        · have e2 : (if (1 : Int) = 1 ∧ ∀ x ∈ e :: K, (kids A x).length = (kids A 1).length then 1 else 0 : Int) = if (0 : Int) = 1 ∧ ∀ x ∈ K, (kids A x).length = (kids A 1).length then 1 else 0 := by
            rw [if_neg (fun y => w (by rw [y.2 e List.mem_cons_self])), if_neg (fun y => by have := y.1; omega)]
          rw [e2]
          exact nx 0 (Or.inl rfl)
        · have e2 : (if (1 : Int) = 1 ∧ ∀ x ∈ e :: K, (kids A x).length = (kids A 1).length then 1 else 0 : Int) = if (1 : Int) = 1 ∧ ∀ x ∈ K, (kids A x).length = (kids A 1).length then 1 else 0 := by
            by_cases y : ∀ x ∈ K, (kids A x).length = (kids A 1).length
            · have y2 : ∀ x ∈ e :: K, (kids A x).length = (kids A 1).length := fun x hx => by
                rcases List.mem_cons.mp hx with q | q
                · rw [q]; omega
                · exact y x q
              rw [if_pos ⟨rfl, y2⟩, if_pos ⟨rfl, y⟩]
            · rw [if_neg (show ¬ ((1 : Int) = 1 ∧ ∀ x ∈ e :: K, (kids A x).length = (kids A 1).length) from fun q => y (fun x hx => q.2 x (List.mem_cons_of_mem _ hx))), if_neg (fun q => y q.2)]
          rw [e2]
          exact nx 1 (Or.inr rfl)
  have bad : ¬ tbQ A → Rd (fun m => f_X11_isByColumns m d 31 S [((c : Nat) : Int), -1, 0, -1, 0]) (if tbQ A then 1 else 0) S := fun nq => by
    rw [if_neg nq]
    refine ev_up (fun n => e_X11_isByColumns_31) ?_
    unfold b_X11_isByColumns_31
    refine ev_gg (by decide) ?_
    refine ev_ite (fun _ => ?_) (fun z => by omega)
    refine ev_gg (by decide) ?_
    exact ev_ret ⟨rfl, rfl⟩
  refine ev_up (fun n => e_X11_isByColumns_0) ?_
  unfold b_X11_isByColumns_0
  refine ev_gg (by first | omega | (constructor <;> omega)) ?_
  refine ev_gg (hc) ?_
  refine ev_gcr (t_firstOfMap (V := A) (g := 0) (d := d - 1) hc hv wA (by omega)) ?_
  by_cases k5 : nk A 0 = 5
  · rw [if_pos k5]
    by_cases n1 : 0 + 1 < 0 + nz A 0
    · have ec : cur (0 + 1) (0 + nz A 0) = 1 := if_pos n1
      have ek : kids A 0 = ks A (0 + 1) (0 + nz A 0) := rfl
      have ne : kids A 0 ≠ [] := by
        rw [ek, ks_cons zA n1]
        exact List.cons_ne_nil _ _
      rw [ec]
      refine ev_gg (by decide) ?_
      refine ev_ite (fun z => absurd z (by decide)) (fun _ => ?_)
      refine ev_gcr (t_hasOnly (V := A) (g := 0) (d := d - 1) hc hv wA (by omega) (by omega) (by decide)) ?_
      rw [hoK_all]
      have L := lp (kids A 0) (0 + 1) 0
      rw [ec] at L
      by_cases c4 : ∀ x ∈ kids A 0, nk A x = 4
      · rw [if_pos c4]
        refine ev_gg (by decide) ?_
        refine ev_ite (fun z => absurd z (by decide)) (fun _ => ?_)
        have e2 : (if tbQ A then 1 else 0 : Int) = if (1 : Int) = 1 ∧ ∀ x ∈ kids A 0, (kids A x).length = (kids A 1).length then 1 else 0 := by
          by_cases y : ∀ x ∈ kids A 0, (kids A x).length = (kids A 1).length
          · rw [if_pos (show tbQ A from ⟨k5, ne, c4, y⟩), if_pos ⟨rfl, y⟩]
          · rw [if_neg (show ¬ tbQ A from fun q => y q.2.2.2), if_neg (fun q => y q.2)]
        rw [e2]
        exact L 1 rfl (by omega) (by omega) (by omega) (Or.inr rfl) (by omega)
      · rw [if_neg c4]
        refine ev_gg (by decide) ?_
        refine ev_ite (fun _ => ?_) (fun z => absurd rfl z)
        have e2 : (if tbQ A then 1 else 0 : Int) = if (0 : Int) = 1 ∧ ∀ x ∈ kids A 0, (kids A x).length = (kids A 1).length then 1 else 0 := by
          rw [if_neg (show ¬ tbQ A from fun q => c4 q.2.2.1), if_neg (fun q => by have := q.1; omega)]
        rw [e2]
        exact L 0 rfl (by omega) (by omega) (by omega) (Or.inl rfl) (by omega)
    · have ec : cur (0 + 1) (0 + nz A 0) = -1 := if_neg n1
      rw [ec]
      refine ev_gg (by decide) ?_
      refine ev_ite (fun _ => ?_) (fun z => by omega)
      exact bad (fun q => q.2.1 (ks_nil (by omega)))
  · rw [if_neg k5]
    refine ev_gg (by decide) ?_
    refine ev_ite (fun _ => ?_) (fun z => by omega)
    exact bad (fun q => k5 q.1)
end CRW
