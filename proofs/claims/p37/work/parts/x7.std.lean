/-! p37: THE STANDARD about itself, and about another one -/
theorem lq_cut {g : Int → Int → RK → Option RK} : ∀ (L : List (Int × Int)) (a : Int) (K : RK) (r : Int × RK), lqR g true L a K = some r → r.2.2 = K.2
  | [], a, K, r, h => by
    have h : some (a, K) = some r := h
    cases h
    rfl
  | (sub, nd) :: L, a, K, r, h => by
    have eR : lqR g true ((sub, nd) :: L) a K = if sub = -1 then lqR g true L a K else match g sub nd K with
      | none => none
      | some K1 => lqR g true L (a + if K1.2.length = K.2.length then 1 else 0) (K1.1, K.2) := rfl
    rw [eR] at h
    by_cases c : sub = -1
    · rw [if_pos c] at h
      exact lq_cut L a K r h
    · rw [if_neg c] at h
      cases e1 : g sub nd K with
      | none => rw [e1] at h; cases h
      | some K1 =>
        rw [e1] at h
        exact lq_cut L _ (K1.1, K.2) r h
/-- it complains once at most -/
theorem st_comp {T : List ND} (dT : DOC T) : ∃ K1 : RK, askR stT T 2000 151 [] 0 0 (0, []) = some K1 ∧ K1.2.length ≤ 1 := by
  have so := std_some dT
  cases e : askR stT T 2000 151 [] 0 0 (0, []) with
  | none => exact absurd e so
  | some K1 =>
    refine ⟨K1, rfl, ?_⟩
    have e1 := e_ref (T := T) (P := 2000) (refs := []) (g := 0) (f := 150) (n := 0) (cs := []) (X := 0) (by decide) (by decide) (by decide)
    have s2 : stX 0 = 2 := by decide
    rw [s2] at e1
    have e1 : askR stT T 2000 151 [] 0 0 (0, []) = if (((2 : Nat) : Int), ((0 : Nat) : Int)) ∈ ([] : List (Int × Int)) then some (0 + 1, []) else if 13 ≤ ([] : List (Int × Int)).length then some (0 + 1, [] ++ [(((0 : Nat) : Int), (15 : Int))]) else askR stT T 2000 150 ([] ++ [(((2 : Nat) : Int), ((0 : Nat) : Int))]) ((2 : Nat) : Int) ((0 : Nat) : Int) (0 + 1, []) := e1
    rw [if_neg (by simp), if_neg (by simp)] at e1
    obtain ⟨⟨ab2, _, _⟩, ⟨e3, k3⟩, _, _, ⟨k5, _, _⟩, _⟩ := st_some
    have e2 := e_some (T := T) (P := 2000) (refs := [] ++ [(((2 : Nat) : Int), ((0 : Nat) : Int))]) (g := 0) (f := 149) (n := 0 + 1) (cs := []) (X := 2) (a := 4) (b := 6) (said := 3) (by decide) k5 ab2 e3 k3 (by decide)
    have e2 : askR stT T 2000 150 ([] ++ [(((2 : Nat) : Int), ((0 : Nat) : Int))]) ((2 : Nat) : Int) ((0 : Nat) : Int) (0 + 1, []) = match lqR (fun sub nd K => askR stT T 2000 149 ([] ++ [(((2 : Nat) : Int), ((0 : Nat) : Int))]) sub nd K) true [(((4 : Nat) : Int), ((0 : Nat) : Int)), (((6 : Nat) : Int), ((0 : Nat) : Int))] 0 (0 + 1 + 1, []) with
      | none => none
      | some r => some (r.2.1, r.2.2 ++ if 0 < r.1 then [] else [(((0 : Nat) : Int), 12)]) := e2
    rw [e1, e2] at e
    cases e3 : lqR (fun sub nd K => askR stT T 2000 149 ([] ++ [(((2 : Nat) : Int), ((0 : Nat) : Int))]) sub nd K) true [(((4 : Nat) : Int), ((0 : Nat) : Int)), (((6 : Nat) : Int), ((0 : Nat) : Int))] 0 (0 + 1 + 1, []) with
    | none =>
      rw [e3] at e
      cases e
    | some r =>
      rw [e3] at e
      have c := lq_cut _ _ _ _ e3
      have c : r.2.2 = [] := c
      have e : some ((r.2.1, r.2.2 ++ if 0 < r.1 then [] else [(((0 : Nat) : Int), (12 : Int))]) : RK) = some K1 := e
      have e := (Option.some.inj e).symm
      rw [e]
      show (r.2.2 ++ if 0 < r.1 then [] else [(((0 : Nat) : Int), (12 : Int))]).length ≤ 1
      rw [c, List.nil_append]
      split
      · exact Nat.zero_le _
      · exact Nat.le_refl _
def stOk : Bool := match askR stT stT 2000 151 [] 0 0 (0, []) with
  | some K => K.2.isEmpty
  | none => false
set_option maxRecDepth 100000 in
theorem st_ok : stOk = true := by decide +kernel
theorem st_own : ∃ n : Int, askR stT stT 2000 151 [] 0 0 (0, []) = some (n, []) := by
  have h := st_ok
  unfold stOk at h
  cases e : askR stT stT 2000 151 [] 0 0 (0, []) with
  | none =>
    rw [e] at h
    cases h
  | some K =>
    rw [e] at h
    have h : K.2.isEmpty = true := h
    obtain ⟨n, cs⟩ := K
    have h : cs = [] := List.isEmpty_iff.mp h
    exact ⟨n, by rw [h]⟩
section XSD
variable {S : GS} {Ds : List (List ND)} {d : Nat} {a b : Int} {V : List ND}
theorem k_standard (h : St Ds S) (hd : 30 ≤ d) (h4 : Ds.length < 40) : Ev (fun m => f_X11_standard m d 0 S []) (fun x S1 => x = (Ds.length : Int) ∧ St (Ds ++ [stT]) S1) := by
  obtain ⟨_, _, _, _, _, h⟩ := h
  refine ev_mono (c_standard h hd std_doc) (fun x S1 q => ?_)
  rw [if_pos h4, doc_kyQ std_doc] at q
  exact ⟨q.1, st_of q.2⟩
theorem k_check (h : St Ds S) (hd : 240 ≤ d) (ia : Is Ds a stT) (ib : Is Ds b V) : Ev (fun m => f_X11_check m d 0 S [a, b]) (fun x S1 => (∃ K1 : RK, askR stT V 2000 151 [] 0 0 (0, []) = some K1 ∧ K1.2.length ≤ 1 ∧ x = (K1.2.length : Int)) ∧ St Ds S1) := by
  have ra := is_inr h ia
  have rb := is_inr h ib
  have dV := is_doc h ib
  obtain ⟨_, _, _, _, _, h⟩ := h
  refine ev_mono (c_check h hd ra.1 rb.1 std_doc) (fun x S1 q => ?_)
  obtain ⟨K1, e, l⟩ := st_comp dV
  have xa := exa_ask (Sc := stT) (T := V)
  rw [e] at xa
  have xa : if K1.2.length ≤ 1000 then (exaR stT V).2.1 = false ∧ (exaR stT V).2.2 = K1.2 else (exaR stT V).2.1 = true := xa
  rw [if_pos (by omega)] at xa
  obtain ⟨n, en⟩ := st_own
  rw [if_pos ⟨ia.1, ib.1⟩, ia.2, ib.2, if_pos ⟨(agB_ask en).mpr rfl, xa.1⟩, xa.2] at q
  exact ⟨⟨K1, e, l, q.1⟩, st_of q.2⟩
end XSD
