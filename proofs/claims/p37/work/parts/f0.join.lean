/-! JOINING, of the class -/
abbrev alk (T : List ND) (i : Int) (U : List ND) (j : Int) : Prop := if i = -1 ∨ j = -1 then i = j else smJ 13 T i.toNat U j = true
def acT (T : List ND) (i : Int) : List (List ND) := if i = -1 then [] else [sg T i.toNat]
/-- what joining gives: VALUES, one at most, and the PATHS of QUARRELS -/
abbrev JR : Type := List (List ND) × List (List Int)
def j1F (g : List Int → Int → Int → Int → JR) (O A B : List ND) (a b : Int) (p : List Int) : List Nat → JR
  | [] => ([], [])
  | c :: K => ((g (p ++ stp O c) (c : Int) (vLk A a (nq O c)) (vLk B b (nq O c))).1 ++ (j1F g O A B a b p K).1, (g (p ++ stp O c) (c : Int) (vLk A a (nq O c)) (vLk B b (nq O c))).2 ++ (j1F g O A B a b p K).2)
def j2F (g : List Int → Int → Int → Int → JR) (O A B : List ND) (o b : Int) (p : List Int) : List Nat → JR
  | [] => ([], [])
  | c :: K => if vLk O o (nq A c) = -1 then ((g (p ++ stp A c) (-1) (c : Int) (vLk B b (nq A c))).1 ++ (j2F g O A B o b p K).1, (g (p ++ stp A c) (-1) (c : Int) (vLk B b (nq A c))).2 ++ (j2F g O A B o b p K).2) else j2F g O A B o b p K
def j3F (O A B : List ND) (o a : Int) : List Nat → List (List ND)
  | [] => []
  | c :: K => (if vLk O o (nq B c) = -1 ∧ vLk A a (nq B c) = -1 then [sg B c] else []) ++ j3F O A B o a K
def kidI (V : List ND) (i : Int) : List Nat := if i = -1 then [] else kids V i.toNat
def jnF (O A B : List ND) : Nat → List Int → Int → Int → Int → JR
  | 0, p, o, a, b => if alk A a B b ∨ alk B b O o then (acT A a, []) else if alk A a O o then (acT B b, []) else ([], [p])
  | f + 1, p, o, a, b => if alk A a B b ∨ alk B b O o then (acT A a, []) else if alk A a O o then (acT B b, [])
    else if kdI A a = 5 ∧ kdI B b = 5 ∧ (o = -1 ∨ kdI O o = 5) then
      ([gpN (5, 1, 0, [], kI A a) ((j1F (jnF O A B f) O A B a b p (kidI O o)).1 ++ (j2F (jnF O A B f) O A B o b p (kidI A a)).1 ++ j3F O A B o a (kidI B b)) ((j1F (jnF O A B f) O A B a b p (kidI O o)).1 ++ (j2F (jnF O A B f) O A B o b p (kidI A a)).1 ++ j3F O A B o a (kidI B b)).length], (j1F (jnF O A B f) O A B a b p (kidI O o)).2 ++ (j2F (jnF O A B f) O A B o b p (kidI A a)).2)
    else ([], [p])
/-- what is made: so many NODES, or too many -/
def MdR (r : Option (List ND)) (S : GS) : Prop := match r with
  | none => ∃ W : TW, W.2 = true ∧ TO 392 W S
  | some V => TO 392 (V, false) S
def apM (r : Option (List ND)) (n : List ND) : Option (List ND) := match r with
  | none => none
  | some V => if V.length + n.length ≤ 100 then some (V ++ n) else none
/-- QUARRELS that are kept -/
def QuS (Q : List (List Int)) (S : GS) : Prop := S.1 485 7 = (Q.length : Int) ∧ SV S 458 Q.flatten ∧ (∀ k, k < Q.length → S.1 486 k = ((Q.take (k + 1)).flatten.length : Int)) ∧ Q.length ≤ 200 ∧ (∀ q ∈ Q, q.length ≤ 300 ∧ ∀ x ∈ q, 0 ≤ x ∧ x < 256)
