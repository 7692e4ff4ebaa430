/-! SCHEMAS: what asking comes to, of the class -/
/-- how often is asked, whether that is too often, COMPLAINTS -/
abbrev CK : Type := Int × Bool × List (Int × Int)
def ckC (K : CK) (muted : Bool) (node w : Int) : CK := if muted = true then K else if K.2.2.length < 1000 then (K.1, K.2.1, K.2.2 ++ [(node, w)]) else (K.1, true, K.2.2)
abbrev saysP (V : List ND) (i : Int) (t : Nat) : Prop := kdI V i = 3 ∧ tI V i = sx t
def kdW (k : Int) : Nat := if k = 0 then 47 else if k = 1 then 48 else if k = 2 then 49 else if k = 3 then 50 else if k = 4 then 51 else 52
def okK (Sc T : List ND) (node : Nat) (c : Nat) : Bool := if saysP Sc (c : Int) 46 then decide (nk T node = 2 ∧ 0 ≤ pwI T (node : Int)) else decide (saysP Sc (c : Int) (kdW (nk T node)))
/-- the NUMBER of signs or VALUES -/
def lnN (T : List ND) (node : Nat) : List ND := (stN ([ndK 2], false) 0 0 (wnum (lnI T (node : Int))) 0).1
def plB (Sc T : List ND) (w said node : Nat) : Bool :=
  if w = 1 then okK Sc T node said || (kids Sc said).any (okK Sc T node)
  else if w = 2 then decide (nk T node ≠ 2 ∨ 0 ≤ onI T (node : Int) Sc (said : Int))
  else if w = 3 then decide (nk T node ≠ 2 ∨ onI T (node : Int) Sc (said : Int) ≤ 0)
  else if w = 4 then decide (lnI T (node : Int) = -1 ∨ 0 ≤ onI (lnN T node) 0 Sc (said : Int))
  else if w = 5 then decide (lnI T (node : Int) = -1 ∨ onI (lnN T node) 0 Sc (said : Int) ≤ 0)
  else (kids Sc said).any (fun c => smJ 13 Sc c T (node : Int))
def ckH (Sc T : List ND) (node : Nat) (muted : Bool) : List Nat → Bool × CK → Bool × CK
  | [], y => y
  | c :: L, y => ckH Sc T node muted L (if nk T node = 5 ∧ vLk T (node : Int) (tI Sc (c : Int)) = -1 then (false, ckC y.2 muted (node : Int) 6) else y)
/-- WORDS that ask nothing -/
def plyF (Sc T : List ND) (w said node : Nat) (muted : Bool) (K : CK) : Bool × CK := if w = 6 then ckH Sc T node muted (kids Sc said) (true, K) else (plB Sc T w said node, if plB Sc T w said node = true then K else ckC K muted (node : Int) (w : Int))
/-- the SCHEMA that a ref asks; -1 if it says yes by itself, -2 if it says no -/
def tgF (Sc : List ND) (refs : List (Int × Int)) (said node : Nat) : Int := if vLk Sc (vLk Sc 0 (sx 53)) (tI Sc (said : Int)) = -1 then -2 else if (vLk Sc (vLk Sc 0 (sx 53)) (tI Sc (said : Int)), (node : Int)) ∈ refs then -1 else if 13 ≤ refs.length then -2 else vLk Sc (vLk Sc 0 (sx 53)) (tI Sc (said : Int))
/-- of what is asked: a SCHEMA, or none, and a NODE -/
def qsL (Sc T : List ND) (refs : List (Int × Int)) (w by_ said node : Nat) : List (Int × Int) :=
  if w = 7 then (kidsM T node).map (fun (q : Nat) => (vLk Sc (said : Int) (nq T q), (q : Int)))
  else if w = 8 then (kidsM T node).map (fun (q : Nat) => (if vLk Sc (vLk Sc (by_ : Int) (sx 37)) (nq T q) = -1 then (said : Int) else -1, (q : Int)))
  else if w = 9 then (if nk T node = 4 then kids T node else []).map (fun (q : Nat) => ((said : Int), (q : Int)))
  else if w = 14 then [((said : Int), (node : Int))]
  else if w = 15 then (if tgF Sc refs said node < 0 then [] else [(tgF Sc refs said node, (node : Int))])
  else (kids Sc said).map (fun (q : Nat) => ((q : Int), (node : Int)))
def lpF (g : Int → Int → CK → Bool × CK) : List (Int × Int) → Int → Int → CK → Int × Int × CK
  | [], s, a, K => (s, a, K)
  | (sub, nd) :: L, s, a, K => if K.2.1 = true then (s, a, K) else if sub = -1 then lpF g L s a K else lpF g L (s + 1) (a + if (g sub nd K).1 = true then 1 else 0) (g sub nd K).2
def hdB (w : Nat) (s a : Int) (no : Bool) : Bool := if w = 12 then decide (0 < a) else if w = 13 then decide (a = 1) else if w = 14 then decide (a = 0) else decide (a = s ∧ no = false)
def hsB (w : Nat) (s a : Int) (no : Bool) : Bool := if w < 12 then true else if w = 15 then !no else hdB w s a no
abbrev qtB (w : Nat) (muted : Bool) : Bool := muted || decide (12 ≤ w ∧ w ≤ 14)
/-- one WORD -/
def wdF (Sc T : List ND) (g : List (Int × Int) → Int → Int → Bool → CK → Bool × CK) (refs : List (Int × Int)) (by_ node : Nat) (muted : Bool) (w : Nat) (y : Bool × CK) : Bool × CK :=
  if vLk Sc (by_ : Int) (sx (30 + w)) = -1 then y
  else if w ≤ 6 ∨ w = 10 then ((plyF Sc T w (vLk Sc (by_ : Int) (sx (30 + w))).toNat node muted y.2).1 && y.1, (plyF Sc T w (vLk Sc (by_ : Int) (sx (30 + w))).toNat node muted y.2).2)
  else
    let r := lpF (fun sub nd K => g (if w = 15 then refs ++ [(sub, (node : Int))] else refs) sub nd (qtB w muted) K) (qsL Sc T refs w by_ (vLk Sc (by_ : Int) (sx (30 + w))).toNat node) 0 0 y.2
    let no := decide (w = 15 ∧ tgF Sc refs (vLk Sc (by_ : Int) (sx (30 + w))).toNat node = -2)
    (hdB w r.1 r.2.1 no && y.1, if hsB w r.1 r.2.1 no = true then r.2.2 else ckC r.2.2 muted (node : Int) (w : Int))
def wdsF (Sc T : List ND) (g : List (Int × Int) → Int → Int → Bool → CK → Bool × CK) (refs : List (Int × Int)) (by_ node : Nat) (muted : Bool) : Nat → Bool × CK → Bool × CK
  | 0, y => y
  | m + 1, y => wdsF Sc T g refs by_ node muted m (wdF Sc T g refs by_ node muted (15 - m) y)
/-- asking a SCHEMA about a NODE -/
def askF (Sc T : List ND) (most : Int) : Nat → List (Int × Int) → Int → Int → Bool → CK → Bool × CK
  | 0, _, _, _, _, K => (false, (K.1 + 1, true, K.2.2))
  | f + 1, refs, by_, node, muted, K =>
    if K.2.1 = true ∨ most < K.1 + 1 then (false, (K.1 + 1, true, K.2.2))
    else if kdI Sc by_ = 5 then wdsF Sc T (askF Sc T most f) refs by_.toNat node.toNat muted 15 (true, (K.1 + 1, false, K.2.2))
    else if kdI Sc by_ = 1 ∧ np Sc by_.toNat = 1 then (true, (K.1 + 1, false, K.2.2))
    else (false, ckC (K.1 + 1, false, K.2.2) muted node 0)
abbrev ckM : Nat → Prop := fun k => trM 400 k ∨ (460 ≤ k ∧ k ≤ 463) ∨ (487 ≤ k ∧ k ≤ 491)
abbrev prA (L : List (Int × Int)) (k : Nat) : Int × Int := L.getD k (0, 0)
/-- what asking rests on -/
def CkS (cS cT : Nat) (Sc T : List ND) (most : Int) (refs : List (Int × Int)) (K : CK) (S0 S : GS) : Prop := (S.2.2 487 9 = cS ∧ S.2.2 487 10 = cT) ∧ (TO cS (Sc, false) S ∧ TO cT (T, false) S) ∧ (S.1 487 13 = (refs.length : Int) ∧ refs.length ≤ 13 ∧ ∀ k, k < refs.length → S.1 488 k = (prA refs k).1 ∧ S.1 489 k = (prA refs k).2) ∧ (S.1 487 15 = most ∧ S.1 487 14 = K.1 ∧ S.2.1 487 16 = K.2.1 ∧ S.1 487 12 = (K.2.2.length : Int) ∧ K.2.2.length ≤ 1000 ∧ ∀ k, k < K.2.2.length → S.1 490 k = (prA K.2.2 k).1 ∧ S.1 491 k = (prA K.2.2 k).2) ∧ S.1 487 11 = S0.1 487 11 ∧ Fr ckM S0 S ∧ Good S
