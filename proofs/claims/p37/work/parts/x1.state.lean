/-! p37: the object as the law sees it -/
/-- which DOCUMENTS there are; all else is of no account -/
def St (Ds : List (List ND)) (S : GS) : Prop := ∃ pg pp L Q C, ClS stT Ds pg pp 0 L Q C S
def Is (Ds : List (List ND)) (a : Int) (V : List ND) : Prop := hasD Ds a ∧ atD' Ds a = V
theorem snoc_of {α : Type} : ∀ (X : List α) (n : Nat), X.length = n + 1 → ∃ Y w, X = Y ++ [w] ∧ Y.length = n
  | [], n, h => by
    rw [List.length_nil] at h
    omega
  | [x], n, h => ⟨[], x, rfl, by
    rw [List.length_singleton] at h
    show 0 = n
    omega⟩
  | x :: y :: X, n, h => by
    obtain ⟨m, rfl⟩ : ∃ m, n = m + 1 := ⟨n - 1, by
      rw [List.length_cons, List.length_cons] at h
      omega⟩
    obtain ⟨Y, w, e, l⟩ := snoc_of (y :: X) m (by
      rw [List.length_cons] at h
      omega)
    exact ⟨x :: Y, w, by rw [e]; rfl, by rw [List.length_cons, l]⟩
section XST
variable {S : GS} {Ds : List (List ND)} {pg pp : List Int} {L : List Nat} {Q : List (List Int)} {C : List (Int × Int)} {d : Nat} {a b : Int} {V U W : List ND}
theorem st_of (h : ClS stT Ds pg pp 0 L Q C S) : St Ds S := ⟨pg, pp, L, Q, C, h⟩
theorem st_40 (h : St Ds S) : Ds.length ≤ 40 := by
  obtain ⟨_, _, _, _, _, h⟩ := h
  exact h.1.2.1
theorem is_app {X : List (List ND)} (h : Is Ds a V) : Is (Ds ++ X) a V := by
  obtain ⟨⟨h1, h2⟩, h3⟩ := h
  refine ⟨⟨h1, by rw [List.length_append]; omega⟩, ?_⟩
  rw [← h3]
  show (Ds ++ X).getD a.toNat [] = Ds.getD a.toNat []
  rw [List.getD_eq_getElem?_getD, List.getD_eq_getElem?_getD, List.getElem?_append_left (by omega)]
theorem is_new {n : Int} (hn : n = (Ds.length : Int)) : Is (Ds ++ [W]) n W := by
  subst hn
  refine ⟨⟨by omega, by rw [List.length_append, List.length_singleton]; omega⟩, ?_⟩
  show (Ds ++ [W]).getD (Ds.length : Int).toNat [] = W
  rw [Int.toNat_natCast, List.getD_eq_getElem?_getD, List.getElem?_append_right (Nat.le_refl _), Nat.sub_self]
  rfl
theorem is_doc (h : St Ds S) (i : Is Ds a V) : DOC V := by
  obtain ⟨_, _, _, _, _, h⟩ := h
  have k : DOC (atD' Ds a) := (cl_at h i.1).2.2
  rw [i.2] at k
  exact k
theorem is_inr (h : St Ds S) (i : Is Ds a V) : inr a ∧ 0 ≤ a ∧ a < 40 := by
  have := st_40 h
  have := i.1.1
  have := i.1.2
  refine ⟨⟨by omega, by omega⟩, by omega, by omega⟩
theorem k_sum0 (h : St Ds S) (hd : 4 ≤ d) : Rd (fun m => f_X11_sum m d 0 S [0]) (Ds.length : Int) S := by
  obtain ⟨_, _, _, _, _, h⟩ := h
  refine rd_as (c_sum h hd (by decide)) ?_
  rw [if_pos (show (0 : Int) ≤ 0 ∧ (0 : Int) ≤ 6 by decide), if_pos rfl]
theorem k_sum1 (h : ClS stT Ds pg pp 0 L Q C S) (hd : 4 ≤ d) : Rd (fun m => f_X11_sum m d 0 S [1]) (pg.length : Int) S := by
  refine rd_as (c_sum h hd (by decide)) ?_
  rw [if_pos (show (0 : Int) ≤ 1 ∧ (1 : Int) ≤ 6 by decide), if_neg (show ¬ (1 : Int) = 0 by decide), if_pos rfl]
theorem k_sum2 (h : ClS stT Ds pg pp 0 L Q C S) (hd : 4 ≤ d) : Rd (fun m => f_X11_sum m d 0 S [2]) (pp.length : Int) S := by
  refine rd_as (c_sum h hd (by decide)) ?_
  rw [if_pos (show (0 : Int) ≤ 2 ∧ (2 : Int) ≤ 6 by decide), if_neg (show ¬ (2 : Int) = 0 by decide), if_neg (show ¬ (2 : Int) = 1 by decide), if_pos rfl]
theorem k_equal (h : St Ds S) (hd : 40 ≤ d) (ia : Is Ds a V) (ib : Is Ds b U) : ∃ e : Int, (e = 1 ∧ EK V U ∨ e = 0 ∧ ¬ EK V U) ∧ Rd (fun m => f_X11_equal m d 0 S [a, b]) e S := by
  have dV := is_doc h ia
  have dU := is_doc h ib
  have ra := is_inr h ia
  have rb := is_inr h ib
  obtain ⟨_, _, _, _, _, h⟩ := h
  have k := c_equal h hd ra.1 rb.1
  rw [if_pos ⟨ia.1, ib.1⟩, ia.2, ib.2] at k
  have q := eq_doc dV dU
  by_cases c : smJ 13 V 0 U 0 = true
  · rw [if_pos c] at k
    exact ⟨1, Or.inl ⟨rfl, q.mp c⟩, k⟩
  · rw [if_neg c] at k
    exact ⟨0, Or.inr ⟨rfl, fun z => c (q.mpr z)⟩, k⟩
theorem k_equal1 (h : St Ds S) (hd : 40 ≤ d) (ia : Is Ds a V) (ib : Is Ds b U) (e : EK V U) : Rd (fun m => f_X11_equal m d 0 S [a, b]) 1 S := by
  obtain ⟨x, hx, k⟩ := k_equal h hd ia ib
  rcases hx with ⟨z, _⟩ | ⟨_, z⟩
  · rw [z] at k
    exact k
  · exact absurd e z
theorem k_digest {i : Int} (h : St Ds S) (hd : 50 ≤ d) (ia : Is Ds a V) (hi : 0 ≤ i ∧ i < (V.length : Int)) : Ev (fun m => f_X11_digest m d 0 S [a, i]) (fun x S1 => x = dgst 7 (wrF 12 1 0 (sg V i.toNat)) ∧ St Ds S1) := by
  have dV := is_doc h ia
  have l100 := dV.2.2.1
  have ra := is_inr h ia
  obtain ⟨_, _, _, _, _, h⟩ := h
  refine ev_mono (c_digest h hd ra.1 ⟨by omega, by omega⟩) (fun x S1 q => ?_)
  rw [if_pos ⟨ia.1, by rw [ia.2]; exact hi⟩, ia.2] at q
  exact ⟨q.1, st_of q.2⟩
theorem k_node {i w : Int} (h : St Ds S) (hd : 30 ≤ d) (ia : Is Ds a V) (hi : 0 ≤ i ∧ i < (V.length : Int)) (hw : 0 ≤ w ∧ w ≤ 9) : Rd (fun m => f_X11_node m d 0 S [a, i, w]) (abI V i.toNat w) S := by
  have dV := is_doc h ia
  have l100 := dV.2.2.1
  have ra := is_inr h ia
  obtain ⟨_, _, _, _, _, h⟩ := h
  have k := c_node h hd ra.1 (i := i) (w := w) ⟨by omega, by omega⟩ ⟨by omega, by omega⟩
  rw [if_pos ⟨ia.1, by rw [ia.2]; exact hi⟩, if_pos hw, ia.2] at k
  exact k
theorem k_undo (h : St (Ds ++ [W]) S) : Ev (fun m => f_X11_undo m d 0 S []) (fun x S1 => x = (Ds.length : Int) ∧ St Ds S1) := by
  obtain ⟨_, _, _, _, _, h⟩ := h
  refine ev_mono (c_undo h) (fun x S1 q => ?_)
  have e : (Ds ++ [W]).length = Ds.length + 1 := by rw [List.length_append, List.length_singleton]
  rw [e, if_pos (by omega), show Ds.length + 1 - 1 = Ds.length by omega, List.take_left'  rfl] at q
  exact ⟨by omega, st_of q.2⟩
theorem k_sound (h : St Ds S) (hd : 90 ≤ d) (ia : Is Ds a V) : Ev (fun m => f_X11_isSound m d 0 S [a]) (fun x S1 => x = 1 ∧ St Ds S1) := by
  have ra := is_inr h ia
  obtain ⟨_, _, _, _, _, h⟩ := h
  refine ev_mono (c_isSound h hd ra.1) (fun x S1 q => ?_)
  rw [if_pos ia.1] at q
  exact ⟨q.1, st_of q.2⟩
theorem k_take {i : Int} (h : St Ds S) (hd : 30 ≤ d) (ia : Is Ds a V) (hi : 0 ≤ i ∧ i < (V.length : Int)) (h4 : Ds.length < 40) : Ev (fun m => f_X11_take m d 0 S [a, i]) (fun x S1 => x = (Ds.length : Int) ∧ St (Ds ++ [kyT (sg V i.toNat) []]) S1) := by
  have dV := is_doc h ia
  have l100 := dV.2.2.1
  have ra := is_inr h ia
  obtain ⟨_, _, _, _, _, h⟩ := h
  refine ev_mono (c_take h hd ra.1 (i := i) ⟨by omega, by omega⟩) (fun x S1 q => ?_)
  rw [if_pos ⟨ia.1, by rw [ia.2]; exact hi⟩, if_pos h4, ia.2] at q
  exact ⟨q.1, st_of q.2⟩
theorem k_sorted (h : St Ds S) (hd : 60 ≤ d) (ia : Is Ds a V) (h4 : Ds.length < 40) : Ev (fun m => f_X11_sorted m d 0 S [a]) (fun x S1 => x = (Ds.length : Int) ∧ St (Ds ++ [woF 1 12 V]) S1) := by
  have dV := is_doc h ia
  have ra := is_inr h ia
  obtain ⟨_, _, _, _, _, h⟩ := h
  refine ev_mono (c_sorted h hd ra.1) (fun x S1 q => ?_)
  rw [if_pos ia.1, if_pos h4, ia.2, doc_kyQ (wo_doc dV)] at q
  exact ⟨q.1, st_of q.2⟩
/-- a PATCH, if there is one -/
theorem k_patch (h : St Ds S) (hd : 80 ≤ d) (ia : Is Ds a V) (ib : Is Ds b U) (h4 : Ds.length < 40) : Ev (fun m => f_X11_patch m d 0 S [a, b]) (fun x S1 => match ptT V U with
    | none => x = exB + 2 ∧ St Ds S1
    | some T => x = (Ds.length : Int) ∧ St (Ds ++ [T]) S1) := by
  have ra := is_inr h ia
  have rb := is_inr h ib
  obtain ⟨_, _, _, _, _, h⟩ := h
  refine ev_mono (c_patch h hd ra.1 rb.1) (fun x S1 q => ?_)
  rw [if_pos ⟨ia.1, ib.1⟩, ia.2, ib.2] at q
  cases e : ptT V U with
  | none =>
    rw [e] at q
    exact ⟨q.1, st_of q.2⟩
  | some T =>
    rw [e] at q
    have q : if Ds.length < 40 then x = (Ds.length : Int) ∧ ClS stT (Ds ++ [T]) _ _ 0 _ _ _ S1 else x = exB + 2 ∧ ClS stT Ds _ _ 0 _ _ _ S1 := q
    rw [if_pos h4] at q
    exact ⟨q.1, st_of q.2⟩
theorem k_lay (h : St Ds S) (hd : 60 ≤ d) (ia : Is Ds a V) (ib : Is Ds b U) (h4 : Ds.length < 40) (hk : rk U = 4) (hW : laF U (kids U 0) 0 V = .inr W) : Ev (fun m => f_X11_lay m d 0 S [a, b]) (fun x S1 => x = (Ds.length : Int) ∧ St (Ds ++ [W]) S1) := by
  have ra := is_inr h ia
  have rb := is_inr h ib
  obtain ⟨_, _, _, _, _, h⟩ := h
  refine ev_mono (c_lay h hd ra.1 rb.1) (fun x S1 q => ?_)
  rw [if_pos ⟨ia.1, ib.1⟩, ia.2, ib.2, if_pos hk, hW] at q
  have q : if Ds.length < 40 then x = (Ds.length : Int) ∧ ClS stT (Ds ++ [W]) _ _ 0 _ _ _ S1 else x = exB + 2 ∧ ClS stT Ds _ _ 0 _ _ _ S1 := q
  rw [if_pos h4] at q
  exact ⟨q.1, st_of q.2⟩
theorem k_turn (h : St Ds S) (hd : 60 ≤ d) (ia : Is Ds a V) (ib : Is Ds b U) (h4 : Ds.length < 40) (hk : rk U = 4) : Ev (fun m => f_X11_turn m d 0 S [a, b]) (fun x S1 => match tuT U V with
    | none => x = exB + 2 ∧ St Ds S1
    | some T => x = (Ds.length : Int) ∧ St (Ds ++ [T]) S1) := by
  have ra := is_inr h ia
  have rb := is_inr h ib
  obtain ⟨_, _, _, _, _, h⟩ := h
  refine ev_mono (c_turn h hd ra.1 rb.1) (fun x S1 q => ?_)
  rw [if_pos ⟨ia.1, ib.1⟩, ia.2, ib.2, if_pos ⟨h4, hk⟩] at q
  cases e : tuT U V with
  | none =>
    rw [e] at q
    exact ⟨q.1, st_of q.2⟩
  | some T =>
    rw [e] at q
    exact ⟨q.1, st_of q.2⟩
/-- joined: without QUARREL, or how many there are -/
theorem k_join {c : Int} (h : St Ds S) (hd : 80 ≤ d) (ia : Is Ds a V) (ib : Is Ds b U) (ic : Is Ds c W) (h4 : Ds.length < 40) (hk : (jnD V U W).2 = [] → DOC (jnD V U W).1.flatten) : Ev (fun m => f_X11_join m d 0 S [a, b, c]) (fun x S1 => ((jnD V U W).2 = [] ∧ x = (Ds.length : Int) ∧ St (Ds ++ [(jnD V U W).1.flatten]) S1) ∨ (x = -1 ∧ (1 ≤ (jnD V U W).2.length ∧ (jnD V U W).2.length ≤ 200) ∧ St Ds S1 ∧ ∀ D : Nat, 1 ≤ D → Rd (fun m => f_X11_quarrels m D 0 S1 []) ((jnD V U W).2.length : Int) S1)) := by
  have ra := is_inr h ia
  have rb := is_inr h ib
  have rc := is_inr h ic
  obtain ⟨_, _, _, _, _, h⟩ := h
  refine ev_mono (c_join h hd ra.1 rb.1 rc.1) (fun x S1 q => ?_)
  rw [if_pos ⟨ia.1, ib.1, ic.1⟩, ia.2, ib.2, ic.2] at q
  by_cases e : (jnD V U W).2 = []
  · rw [if_pos e, if_pos ⟨doc_ok (hk e), h4⟩] at q
    exact Or.inl ⟨e, q.1, st_of q.2⟩
  · rw [if_neg e] at q
    have l : 1 ≤ (jnD V U W).2.length := by
      cases z : (jnD V U W).2 with
      | nil => exact absurd z e
      | cons _ _ => rw [List.length_cons]; omega
    exact Or.inr ⟨q.1, ⟨l, q.2.2.2.2.2.2.1.2.2.2.1⟩, st_of q.2, fun D hD => t_quarrels hD q.2⟩
end XST
