/-! a VALUE within a group gives way to another one -/
def adjB (b : Nat) (L : List ND) (o : Nat) (e : Int) : List ND := L.mapIdx (fun q x => if q + b ≤ o ∧ o < q + b + x.2.1 then wZ x ((x.2.1 : Int) + e).toNat else x)
theorem adjS_B {L : List ND} {o : Nat} {e : Int} : adjS L o e = adjB 0 L o e := by
  unfold adjS adjP adjB
  congr 1
  funext q x
  by_cases h : q ≤ o ∧ o < q + x.2.1
  · rw [if_pos ⟨by omega, h.1, h.2⟩, if_pos ⟨by omega, by omega⟩]
  · rw [if_neg (fun z => h z.2), if_neg (fun z => h ⟨by omega, by omega⟩)]
theorem adjB_app {b o : Nat} {A B : List ND} {e : Int} : adjB b (A ++ B) o e = adjB b A o e ++ adjB (b + A.length) B o e := by
  unfold adjB
  rw [List.mapIdx_append]
  congr 2
  funext q x
  rw [show q + A.length + b = q + (b + A.length) by omega]
theorem adjB_cons {b o : Nat} {x : ND} {B : List ND} {e : Int} : adjB b (x :: B) o e = (if b ≤ o ∧ o < b + x.2.1 then wZ x ((x.2.1 : Int) + e).toNat else x) :: adjB (b + 1) B o e := by
  unfold adjB
  rw [List.mapIdx_cons]
  simp only [Nat.zero_add]
  congr 2
  funext q x
  rw [show q + 1 + b = q + (b + 1) by omega]
theorem adjB_no {b o : Nat} {A : List ND} {e : Int} (h : ∀ i, i < A.length → ¬ (i + b ≤ o ∧ o < i + b + nz A i)) : adjB b A o e = A := by
  refine ext_getD (by simp [adjB]) (fun i hi => ?_)
  have hi' : i < A.length := by simpa [adjB] using hi
  have := h i hi'
  unfold adjB
  have e0 : A.getD i nd0 = A[i] := by rw [List.getD_eq_getElem?_getD, List.getElem?_eq_getElem hi']; rfl
  have e1 : nz A i = A[i].2.1 := by unfold nz; rw [e0]
  rw [e1] at this
  simp only [List.getD_eq_getElem?_getD, List.getElem?_mapIdx, List.getElem?_eq_getElem hi', Option.map_some, Option.getD_some]
  rw [if_neg this]
theorem adjB_past {b o : Nat} {A : List ND} {e : Int} (h : o < b) : adjB b A o e = A := adjB_no (fun i _ => by omega)
theorem adjB_wf {b o : Nat} {A : List ND} {e : Int} (hw : WF A) (h : b + A.length ≤ o) : adjB b A o e = A := adjB_no (fun i hi => by have := hw.1 i hi; omega)
/-- with another KEY -/
def kyT (T : List ND) (q : List Int) : List ND := wQ (T.getD 0 nd0) q :: T.tail
theorem rq_ky {T : List ND} {q : List Int} : rq (kyT T q) = q := rfl
theorem ky_len {T : List ND} {q : List Int} (h : 1 ≤ T.length) : (kyT T q).length = T.length := by
  unfold kyT
  rw [List.length_cons, List.length_tail]
  omega
theorem ky_rz {T : List ND} {q : List Int} : rz (kyT T q) = rz T := rfl
theorem nz_ky {T : List ND} {q : List Int} (h : 1 ≤ T.length) (i : Nat) : nz (kyT T q) i = nz T i := by
  cases T with
  | nil => simp at h
  | cons x r =>
    cases i with
    | zero => rfl
    | succ i => exact nz_cons.trans nz_cons.symm
theorem nk_ky {T : List ND} {q : List Int} (h : 1 ≤ T.length) (i : Nat) : nk (kyT T q) i = nk T i := by
  cases T with
  | nil => simp at h
  | cons x r =>
    cases i with
    | zero => rfl
    | succ i => exact nk_cons.trans nk_cons.symm
theorem tr_ky {T : List ND} {q : List Int} (h : TR T) : TR (kyT T q) := by
  obtain ⟨⟨w1, w2, w3⟩, h1, h2⟩ := h
  have l := ky_len (q := q) h1
  refine ⟨⟨fun i hi => ?_, fun i j a b => ?_, fun i hi hk => ?_⟩, by omega, by rw [ky_rz, l]; exact h2⟩
  · rw [nz_ky h1, l]; exact w1 i (by omega)
  · rw [nz_ky h1] at b ⊢
    rw [nz_ky h1]
    exact w2 i j a b
  · rw [nk_ky h1] at hk
    rw [nz_ky h1]
    exact w3 i (by omega) hk
theorem pzl_ky {T : List ND} {q : List Int} (h1 : 1 ≤ T.length) (h : PZL T) : PZL (kyT T q) := by
  intro x hx
  rcases List.mem_cons.mp hx with r | r
  · subst r
    show 1 ≤ (T.getD 0 nd0).2.1
    exact h _ (nd_mem (show 0 < T.length by omega))
  · exact h x (List.mem_of_mem_tail r)
/-- the j-th VALUE of a group at the end of a row gives way to a piece; its KEY stays -/
theorem rpl_gp {P : List ND} {x : ND} {A u B t : List ND} (hP : WF P) (hA : WF A) (hu : TR u) (ht : TR t) : rpl (P ++ (wZ x (1 + (A ++ u ++ B).length) :: (A ++ u ++ B))) (P.length + 1 + A.length) t 0 = P ++ (wZ x (1 + (A ++ kyT t (rq u) ++ B).length) :: (A ++ kyT t (rq u) ++ B)) := by
  obtain ⟨uw, u1, u2⟩ := hu
  obtain ⟨tw, t1, t2⟩ := ht
  cases u with
  | nil => simp at u1
  | cons ur ut =>
    cases t with
    | nil => simp at t1
    | cons tr tt =>
      have u2' : ur.2.1 = ut.length + 1 := u2
      have t2' : tr.2.1 = tt.length + 1 := t2
      have eo : (P ++ (wZ x (1 + (A ++ ur :: ut ++ B).length) :: (A ++ ur :: ut ++ B))).getD (P.length + 1 + A.length) nd0 = ur := by
        rw [getD_append, if_neg (by omega), show P.length + 1 + A.length - P.length = A.length + 1 by omega]
        show (A ++ ur :: ut ++ B).getD A.length nd0 = ur
        rw [List.append_assoc, getD_append, if_neg (by omega), Nat.sub_self]
        rfl
      have ez : nz (P ++ (wZ x (1 + (A ++ ur :: ut ++ B).length) :: (A ++ ur :: ut ++ B))) (P.length + 1 + A.length) = ut.length + 1 := by
        unfold nz
        rw [eo]
        exact u2'
      have eq : nq (P ++ (wZ x (1 + (A ++ ur :: ut ++ B).length) :: (A ++ ur :: ut ++ B))) (P.length + 1 + A.length) = ur.2.2.2.2 := by
        unfold nq
        rw [eo]
      have et : nz (tr :: tt) 0 = tt.length + 1 := t2'
      have esg : seg (tr :: tt) (0 + 1) (nz (tr :: tt) 0 - 1) = tt := by
        rw [et]
        unfold seg
        simp
      unfold rpl
      rw [ez, eq, esg, et]
      unfold spl
      have h1 : (P ++ (wZ x (1 + (A ++ ur :: ut ++ B).length) :: (A ++ ur :: ut ++ B))).take (P.length + 1 + A.length + 1) = P ++ (wZ x (1 + (A ++ ur :: ut ++ B).length) :: (A ++ [ur])) := by
        rw [show P ++ (wZ x (1 + (A ++ ur :: ut ++ B).length) :: (A ++ ur :: ut ++ B)) = (P ++ (wZ x (1 + (A ++ ur :: ut ++ B).length) :: (A ++ [ur]))) ++ (ut ++ B) by simp]
        rw [List.take_left']
        simp
        omega
      have h2 : (P ++ (wZ x (1 + (A ++ ur :: ut ++ B).length) :: (A ++ ur :: ut ++ B))).drop (P.length + 1 + A.length + 1 + (ut.length + 1 - 1)) = B := by
        rw [show P ++ (wZ x (1 + (A ++ ur :: ut ++ B).length) :: (A ++ ur :: ut ++ B)) = (P ++ (wZ x (1 + (A ++ ur :: ut ++ B).length) :: (A ++ ur :: ut))) ++ B by simp]
        rw [List.drop_left']
        simp
        omega
      rw [h1, h2, adjS_B]
      have h3 : P ++ (wZ x (1 + (A ++ ur :: ut ++ B).length) :: (A ++ [ur])) ++ tt ++ B = P ++ (wZ x (1 + (A ++ ur :: ut ++ B).length) :: (A ++ (ur :: (tt ++ B)))) := by simp
      rw [h3, adjB_app, adjB_wf hP (by omega), adjB_cons, adjB_app, adjB_wf hA (by omega), adjB_cons, adjB_past (by omega)]
      rw [if_pos ⟨by omega, by show _ < 0 + P.length + (1 + (A ++ ur :: ut ++ B).length); simp; omega⟩, if_pos ⟨by omega, by rw [u2']; omega⟩]
      have h4 : (P ++ (wZ (wZ x (1 + (A ++ ur :: ut ++ B).length)) ((((wZ x (1 + (A ++ ur :: ut ++ B).length)).2.1 : Nat) : Int) + ((tt.length : Int) - ((ut.length + 1 - 1 : Nat) : Int))).toNat :: (A ++ (wZ ur ((ur.2.1 : Int) + ((tt.length : Int) - ((ut.length + 1 - 1 : Nat) : Int))).toNat :: (tt ++ B))))) = (P ++ (wZ x (1 + (A ++ tr :: tt ++ B).length) :: A)) ++ (wZ ur ((ur.2.1 : Int) + ((tt.length : Int) - ((ut.length + 1 - 1 : Nat) : Int))).toNat :: (tt ++ B)) := by
        have ew : (((wZ x (1 + (A ++ ur :: ut ++ B).length)).2.1 : Nat) : Int) + ((tt.length : Int) - ((ut.length + 1 - 1 : Nat) : Int)) = ((1 + (A ++ tr :: tt ++ B).length : Nat) : Int) := by
          show ((1 + (A ++ ur :: ut ++ B).length : Nat) : Int) + _ = _
          simp
          omega
        rw [ew, Int.toNat_natCast]
        simp [wZ]
      rw [h4, List.set_append_right _ _ (by simp; omega)]
      have h5 : P.length + 1 + A.length - (P ++ (wZ x (1 + (A ++ tr :: tt ++ B).length) :: A)).length = 0 := by simp; omega
      rw [h5, List.set_cons_zero]
      have h6 : (((ut.length + 1 : Nat) : Int) + (((tt.length + 1 - 1 : Nat) : Int) - ((ut.length + 1 - 1 : Nat) : Int))).toNat = tr.2.1 := by omega
      rw [h6]
      have h7 : ((nk (tr :: tt) 0, tr.2.1, np (tr :: tt) 0, nt (tr :: tt) 0, ur.2.2.2.2) : ND) = wQ tr ur.2.2.2.2 := rfl
      rw [h7]
      have h8 : kyT (tr :: tt) (rq (ur :: ut)) = wQ tr ur.2.2.2.2 :: tt := rfl
      rw [h8]
      simp
