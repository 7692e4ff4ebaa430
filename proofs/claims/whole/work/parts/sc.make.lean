/-! THE CLASS: a tree that is being made, or too much -/
def MdT (c : Nat) (r : Option (List ND)) (S0 S : GS) : Prop := match r with
  | none => ∃ W : TW, W.2 = true ∧ TY c S0 W S
  | some V => TY c S0 (V, false) S
/-- the number of the NODE that comes next -/
abbrev ixR (r : Option (List ND)) (x : Int) : Prop := inr x ∧ ∀ V, r = some V → V.length < 100 → x = (V.length : Int)
section MTT
variable {S S0 : GS} {c d : Nat} {r : Option (List ND)}
theorem mt_ty (h : MdT c r S0 S) : Fr (trM c) S0 S ∧ Good S := by
  cases r with
  | none => obtain ⟨W, _, q⟩ := h; exact ⟨q.2.2.1, q.2.2.2⟩
  | some V => exact ⟨h.2.2.1, h.2.2.2⟩
theorem mt_add {k : Int} (hc : gT c) (h : MdT c r S0 S) (hk : 0 ≤ k ∧ k ≤ 5) : Ev (fun n => f_X10_add n d 0 S [((c : Nat) : Int), k]) (fun x S1 => ixR r x ∧ MdT c (apM r (gpN (ndK k) [] 0)) S0 S1) := by
  have ir : ∀ V : List ND, V.length ≤ 100 → inr (addA V) := fun V hV => by unfold addA; split <;> constructor <;> omega
  cases r with
  | none =>
    obtain ⟨W, w1, w2⟩ := h
    refine ev_mono (ty_add (d := d) (k := k) hc w2 hk) (fun x S1 q => ⟨⟨by rw [q.1]; exact ir _ (tv_l w2.1), fun V hV => by cases hV⟩, aNd W k, ?_, q.2⟩)
    unfold aNd
    split
    · exact w1
    · rfl
  | some V =>
    have hV : TY c S0 (V, false) S := h
    refine ev_mono (ty_add (d := d) (k := k) hc hV hk) (fun x S1 q => ⟨⟨by rw [q.1]; exact ir _ (tv_l hV.1), fun V' hV' hl => ?_⟩, ?_⟩)
    · cases hV'
      rw [q.1]
      exact if_pos hl
    · have q2 := q.2
      show MdT c (if V.length + (gpN (ndK k) [] 0).length ≤ 100 then some (V ++ gpN (ndK k) [] 0) else none) S0 S1
      rw [gp_len]
      by_cases e : V.length < 100
      · rw [if_pos (by simp only [List.flatten_nil, List.length_nil]; omega)]
        rw [aNd_ok e] at q2
        exact q2
      · rw [if_neg (by simp only [List.flatten_nil, List.length_nil]; omega)]
        refine ⟨_, ?_, q2⟩
        unfold aNd
        rw [if_neg e]
theorem mt_close {x : ND} {E : List (List ND)} {x2 : Int} (hc : gT c) (hd : 1 ≤ d) (hx : ixR r x2) (h : MdT c (apM r (gpN x E 0)) S0 S) : Ev (fun n => f_X10_close n d 0 S [((c : Nat) : Int), x2]) (fun _ S1 => MdT c (apM r (gpN x E E.length)) S0 S1) := by
  cases r with
  | none =>
    obtain ⟨W, w1, w2⟩ := h
    exact ev_mono (ty_close hc hd w2 hx.1) (fun _ S1 q => ⟨clo W x2, by rw [clo_2]; exact w1, q⟩)
  | some V =>
    have el : (gpN x E E.length).length = (gpN x E 0).length := by rw [gp_len, gp_len]
    have e2 : apM (some V) (gpN x E E.length) = if V.length + (gpN x E 0).length ≤ 100 then some (V ++ gpN x E E.length) else none := by rw [← el]; rfl
    have e1 : apM (some V) (gpN x E 0) = if V.length + (gpN x E 0).length ≤ 100 then some (V ++ gpN x E 0) else none := rfl
    rw [e1] at h
    rw [e2]
    by_cases cc : V.length + (gpN x E 0).length ≤ 100
    · rw [if_pos cc] at h ⊢
      have h' : TY c S0 (V ++ gpN x E 0, false) S := h
      refine ev_mono (ty_close hc hd h' hx.1) (fun _ S1 q => ?_)
      rw [hx.2 V rfl (by rw [gp_len] at cc; omega), clo_gp] at q
      exact q
    · rw [if_neg cc] at h ⊢
      obtain ⟨W, w1, w2⟩ := h
      exact ev_mono (ty_close hc hd w2 hx.1) (fun _ S1 q => ⟨clo W x2, by rw [clo_2]; exact w1, q⟩)
end MTT
