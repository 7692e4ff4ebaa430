/-! A PATCH turned round: what is told -/
theorem une_dg : ∀ (r : List Int), fgR (une r) → une r = r
  | [], _ => rfl
  | [x], h => by
    have e : une [x] = [if x = 126 then 47 else x] := rfl
    rw [e] at h ⊢
    have := h _ List.mem_cons_self
    by_cases c : x = 126
    · rw [if_pos c] at this
      exact absurd this (by decide)
    · rw [if_neg c]
  | x :: y :: r, h => by
    by_cases c : x = 126
    · subst c
      rw [une_126] at h
      have := h _ List.mem_cons_self
      by_cases c2 : y = 48
      · rw [if_pos c2] at this
        exact absurd this (by decide)
      · rw [if_neg c2] at this
        exact absurd this (by decide)
    · rw [une_ne c] at h ⊢
      rw [une_dg (y :: r) (fun z hz => h z (List.mem_cons_of_mem _ hz))]
theorem une_45 : ∀ (r : List Int), une r = [45] ↔ r = [45]
  | [] => by simp [une]
  | [x] => by
    have e : une [x] = [if x = 126 then 47 else x] := rfl
    rw [e]
    by_cases c : x = 126
    · rw [if_pos c, c]
      decide
    · rw [if_neg c]
  | x :: y :: r => by
    have ne : x :: y :: r ≠ [45] := fun z => by
      have := congrArg List.length z
      simp at this
    refine ⟨fun z => ?_, fun z => absurd z ne⟩
    by_cases c : x = 126
    · subst c
      rw [une_126] at z
      have := (List.cons.inj z).1
      by_cases c2 : y = 48
      · rw [if_pos c2] at this
        exact absurd this (by decide)
      · rw [if_neg c2] at this
        exact absurd this (by decide)
    · rw [une_ne c] at z
      have h2 := (List.cons.inj z).2
      have := une_nl h2
      cases this
/-- a place is written as it is read -/
theorem plN_num {w : List Int} (h : 0 ≤ plN w) : w = wnum (plN w) ∧ fgR w := by
  unfold plN at h ⊢
  by_cases c : w.length < 1 ∨ 3 < w.length ∨ (1 < w.length ∧ hdI w = 48)
  · rw [if_pos c] at h
    omega
  rw [if_neg c] at h ⊢
  match w, c, h with
  | [], c, _ => exact absurd (Or.inl (by decide)) c
  | [a], c, h =>
    have e : dgF [a] 0 = if fgC a then 0 * 10 + a - 48 else -1 := rfl
    rw [e] at h ⊢
    by_cases ca : fgC a
    · rw [if_pos ca]
      refine ⟨?_, fun x hx => by rw [List.mem_singleton] at hx; rw [hx]; exact ca⟩
      unfold wnum
      rw [if_neg (by omega), if_neg (by omega), if_neg (by omega)]
      show [a] = [48 + max (0 * 10 + a - 48) (-(0 * 10 + a - 48)) % 10]
      congr 1
      omega
    · rw [if_neg ca] at h
      omega
  | [a, b], c, h =>
    have e : dgF [a, b] 0 = if fgC a then (if fgC b then (0 * 10 + a - 48) * 10 + b - 48 else -1) else -1 := rfl
    have a48 : a ≠ 48 := fun z => c (Or.inr (Or.inr ⟨show 1 < 2 by decide, z⟩))
    rw [e] at h ⊢
    by_cases ca : fgC a
    · rw [if_pos ca] at h ⊢
      by_cases cb : fgC b
      · rw [if_pos cb]
        refine ⟨?_, fun x hx => by
          rcases List.mem_cons.mp hx with z | z
          · rw [z]; exact ca
          · rw [List.mem_singleton] at z; rw [z]; exact cb⟩
        unfold wnum
        rw [if_neg (by omega), if_neg (by omega), if_pos (by omega)]
        show [a, b] = [48 + max ((0 * 10 + a - 48) * 10 + b - 48) (-((0 * 10 + a - 48) * 10 + b - 48)) / 10 % 10, 48 + max ((0 * 10 + a - 48) * 10 + b - 48) (-((0 * 10 + a - 48) * 10 + b - 48)) % 10]
        congr 1
        · omega
        · congr 1
          omega
      · rw [if_neg cb] at h
        omega
    · rw [if_neg ca] at h
      omega
  | [a, b, g], c, h =>
    have e : dgF [a, b, g] 0 = if fgC a then (if fgC b then (if fgC g then ((0 * 10 + a - 48) * 10 + b - 48) * 10 + g - 48 else -1) else -1) else -1 := rfl
    have a48 : a ≠ 48 := fun z => c (Or.inr (Or.inr ⟨show 1 < 3 by decide, z⟩))
    rw [e] at h ⊢
    by_cases ca : fgC a
    · rw [if_pos ca] at h ⊢
      by_cases cb : fgC b
      · rw [if_pos cb] at h ⊢
        by_cases cg : fgC g
        · rw [if_pos cg]
          refine ⟨?_, fun x hx => by
            rcases List.mem_cons.mp hx with z | z
            · rw [z]; exact ca
            · rcases List.mem_cons.mp z with z | z
              · rw [z]; exact cb
              · rw [List.mem_singleton] at z; rw [z]; exact cg⟩
          unfold wnum
          rw [if_neg (by omega), if_pos (by omega), if_pos (by omega)]
          show [a, b, g] = [48 + max (((0 * 10 + a - 48) * 10 + b - 48) * 10 + g - 48) (-(((0 * 10 + a - 48) * 10 + b - 48) * 10 + g - 48)) / 100 % 10, 48 + max (((0 * 10 + a - 48) * 10 + b - 48) * 10 + g - 48) (-(((0 * 10 + a - 48) * 10 + b - 48) * 10 + g - 48)) / 10 % 10, 48 + max (((0 * 10 + a - 48) * 10 + b - 48) * 10 + g - 48) (-(((0 * 10 + a - 48) * 10 + b - 48) * 10 + g - 48)) % 10]
          congr 1
          · omega
          · congr 1
            · omega
            · congr 1
              omega
        · rw [if_neg cg] at h
          omega
      · rw [if_neg cb] at h
        omega
    · rw [if_neg ca] at h
      omega
  | _ :: _ :: _ :: _ :: _, c, _ => exact absurd (Or.inr (Or.inl (by simp))) c
/-- the last WORD, as it is written -/
theorem wdA_last {l : List Int} (h : 1 ≤ nW l) : wdA l (nW l - 1) = une (l.drop (stA l ((nW l : Int) - 1)).toNat) := by
  unfold wdA
  have e1 : ((nW l - 1 : Nat) : Int) = (nW l : Int) - 1 := by omega
  rw [e1, show (nW l : Int) - 1 + 1 = (nW l : Int) by omega, stA_hi (Int.le_refl _)]
  rw [show ((l.length : Int) + 1 - 1).toNat = l.length by omega, List.take_length]
/-- the PATH of a VALUE that was PUT, from the other side -/
theorem apT_is {l : List Int} {V : List ND} {z : Bool × Nat × Nat × Nat} (hV : TR V ∧ PZL V) (hz : aimS l V = some z) (h1 : z.1 = false) : apT l V z = if nk V z.2.1 = 4 ∧ l.drop (stA l ((nW l : Int) - 1)).toNat = [45] then l.take (stA l ((nW l : Int) - 1)).toNat ++ wnum ((kids V z.2.1).length : Int) else l := by
  have ok := (aimS_ok hV hz).2.2 h1
  have n1 : 1 ≤ nW l := ok.2.2.2.2.2.1
  unfold apT
  by_cases c4 : nk V z.2.1 = 4
  · rw [if_pos c4]
    have wl := wdA_last n1
    unfold aimS at hz
    rw [if_neg (by omega)] at hz
    by_cases k5 : kdI V (ldT l V (nW l - 1)) = 5
    · rw [if_pos k5] at hz
      exfalso
      by_cases kv : vLk V (ldT l V (nW l - 1)) (wdA l (nW l - 1)) = -1
      · rw [if_pos kv] at hz
        by_cases k12 : (wdA l (nW l - 1)).length ≤ 12
        · rw [if_pos k12] at hz
          have e := Option.some.inj hz
          subst e
          have m : 0 ≤ ldT l V (nW l - 1) ∧ ldT l V (nW l - 1) < (V.length : Int) := by
            unfold kdI at k5
            by_cases z : 0 ≤ ldT l V (nW l - 1) ∧ ldT l V (nW l - 1) < (V.length : Int)
            · exact z
            · rw [if_neg z] at k5; exact absurd k5 (by decide)
          unfold kdI at k5
          rw [if_pos m] at k5
          have c4' : nk V (ldT l V (nW l - 1)).toNat = 4 := c4
          omega
        · rw [if_neg k12] at hz; cases hz
      · rw [if_neg kv] at hz
        have e := Option.some.inj hz
        subst e
        cases h1
    · rw [if_neg k5] at hz
      by_cases k4 : kdI V (ldT l V (nW l - 1)) = 4
      · rw [if_pos k4] at hz
        by_cases kp : 0 ≤ pRow l V (ldT l V (nW l - 1)).toNat ∧ pRow l V (ldT l V (nW l - 1)).toNat ≤ ((kids V (ldT l V (nW l - 1)).toNat).length : Int)
        · rw [if_pos kp] at hz
          have e := Option.some.inj hz
          subst e
          show l.take (stA l ((nW l : Int) - 1)).toNat ++ wnum (((pRow l V (ldT l V (nW l - 1)).toNat).toNat : Nat) : Int) = if nk V (ldT l V (nW l - 1)).toNat = 4 ∧ l.drop (stA l ((nW l : Int) - 1)).toNat = [45] then l.take (stA l ((nW l : Int) - 1)).toNat ++ wnum ((kids V (ldT l V (nW l - 1)).toNat).length : Int) else l
          rw [show (((pRow l V (ldT l V (nW l - 1)).toNat).toNat : Nat) : Int) = pRow l V (ldT l V (nW l - 1)).toNat by omega]
          unfold pRow at kp ⊢
          rw [sx_20] at kp ⊢
          by_cases cm : wdA l (nW l - 1) = [45]
          · rw [if_pos cm]
            rw [wl, une_45] at cm
            rw [if_pos ⟨c4, cm⟩]
          · rw [if_neg cm] at kp ⊢
            have nm := plN_num kp.1
            rw [if_neg (fun z => cm (by rw [wl, une_45]; exact z.2)), ← nm.1]
            rw [wl] at nm ⊢
            rw [une_dg _ nm.2, List.take_append_drop]
        · rw [if_neg kp] at hz; cases hz
      · rw [if_neg k4] at hz; cases hz
  · rw [if_neg c4, if_neg (fun z => c4 z.1)]
/-- what turns an ORDER round: ORDERS, one after the other -/
abbrev ORD : Type := Nat × List Int × List (List ND)
def puL (l : List Int) (V : List ND) : List ORD := match aimS l V with
  | none => []
  | some z => if z.1 then [(21, l, [sg V z.2.2.1])] else [(25, apT l V z, [])]
def unL (U : List ND) (c : Nat) (V : List ND) : List ORD :=
  if tI U (opI U c) = sx 25 then [(26, tI U (wyI U c), [sg V (ldT (tI U (wyI U c)) V (nW (tI U (wyI U c)))).toNat])]
  else if tI U (opI U c) = sx 28 then puL (tI U (wyI U c)) (cutT V (ldT (tI U (frI U c)) V (nW (tI U (frI U c)))).toNat) ++ [(26, tI U (frI U c), [sg V (ldT (tI U (frI U c)) V (nW (tI U (frI U c)))).toNat])]
  else if tI U (opI U c) = sx 29 ∨ tI U (opI U c) = sx 26 then puL (tI U (wyI U c)) V
  else if tI U (opI U c) = sx 21 then [(21, tI U (wyI U c), [sg V (ldT (tI U (wyI U c)) V (nW (tI U (wyI U c)))).toNat])]
  else [(30, tI U (wyI U c), [sg U (vaI U c).toNat])]
def rcL (X : List ORD) (bk : Option (List (List ND))) : Option (List (List ND)) := X.foldr (fun o b => recS b o.1 o.2.1 o.2.2) bk
def adL (X : List ORD) (os : Option (List (List ND))) : Option (List (List ND)) := X.foldl (fun b o => addS b o.1 o.2.1 o.2.2) os
theorem puR_L {l : List Int} {V : List ND} {bk : Option (List (List ND))} : puR true bk l V = rcL (puL l V) bk := by
  unfold puR puL
  cases aimS l V with
  | none => rfl
  | some z =>
    dsimp only
    unfold putR
    rw [if_pos rfl]
    by_cases c : z.1 = true
    · rw [if_pos c, if_pos c]
      rfl
    · rw [if_neg c, if_neg c]
      rfl
theorem lyR_L {U V : List ND} {c : Nat} {bk : Option (List (List ND))} : lyR U c V bk = rcL (unL U c V) bk := by
  unfold lyR unL
  by_cases c1 : tI U (opI U c) = sx 25
  · rw [if_pos c1, if_pos c1]
    rfl
  rw [if_neg c1, if_neg c1]
  by_cases c2 : tI U (opI U c) = sx 28
  · rw [if_pos c2, if_pos c2, puR_L]
    unfold rcL
    rw [List.foldr_append]
    rfl
  rw [if_neg c2, if_neg c2]
  by_cases c3 : tI U (opI U c) = sx 29 ∨ tI U (opI U c) = sx 26
  · rw [if_pos c3, if_pos c3, puR_L]
  rw [if_neg c3, if_neg c3]
  by_cases c4 : tI U (opI U c) = sx 21
  · rw [if_pos c4, if_pos c4]
    rfl
  rw [if_neg c4, if_neg c4]
  rfl
/-- all that turns a PATCH round -/
def unF (U : List ND) : List Nat → List ND → List ORD
  | [], _ => []
  | c :: K, V => match loS U c V with
    | none => []
    | some T => unF U K T ++ unL U c V
theorem lyF_un {U : List ND} : ∀ (K : List Nat) (n : Nat) (V : List ND) (bk : Option (List (List ND))), lyF U true K n V bk = match laF U K n V with
    | .inl m => .inl m
    | .inr T => .inr (T, rcL (unF U K V) bk)
  | [], n, V, bk => rfl
  | c :: K, n, V, bk => by
    rw [lyF_c, laF_c]
    have eu : unF U (c :: K) V = match loS U c V with
      | none => []
      | some T => unF U K T ++ unL U c V := rfl
    rw [eu]
    unfold loS
    cases lyS U c V with
    | none => rfl
    | some T =>
      dsimp only
      by_cases cp : pOK T
      · rw [if_pos cp, if_pos cp, if_pos rfl]
        dsimp only
        rw [lyF_un K (n + 1) T, lyR_L]
        cases laF U K (n + 1) T with
        | inl m => rfl
        | inr T2 =>
          dsimp only
          unfold rcL
          rw [List.foldr_append]
      · rw [if_neg cp, if_neg cp]
/-- whether ORDERS fit -/
def fitO : List ORD → Nat
  | [] => 0
  | o :: X => 3 + o.2.2.flatten.length + fitO X
def okO (X : List ORD) : Prop := (∀ o ∈ X, o.2.1.length ≤ 40) ∧ fitO X + 1 ≤ 100
def pcO (X : List ORD) : List (List ND) := X.map (fun o => ordP o.1 o.2.1 o.2.2)
theorem fitO_app : ∀ (X Y : List ORD), fitO (X ++ Y) = fitO X + fitO Y
  | [], Y => by rw [List.nil_append]; exact (Nat.zero_add _).symm
  | o :: X, Y => by
    show 3 + o.2.2.flatten.length + fitO (X ++ Y) = 3 + o.2.2.flatten.length + fitO X + fitO Y
    rw [fitO_app X Y]
    omega
theorem pcO_len : ∀ (X : List ORD), (∀ o ∈ X, ∀ t ∈ o.2.2, 1 ≤ t.length) → (pcO X).flatten.length = fitO X
  | [], _ => rfl
  | o :: X, h => by
    show (ordP o.1 o.2.1 o.2.2 :: pcO X).flatten.length = 3 + o.2.2.flatten.length + fitO X
    rw [List.flatten_cons, List.length_append, ordP_len (h o List.mem_cons_self), pcO_len X (fun o ho => h o (List.mem_cons_of_mem _ ho))]
theorem rcL_is : ∀ (X : List ORD), (∀ o ∈ X, ∀ t ∈ o.2.2, 1 ≤ t.length) → (okO X → rcL X (some []) = some (pcO X)) ∧ (¬ okO X → rcL X (some []) = none)
  | [], _ => ⟨fun _ => rfl, fun h => absurd ⟨fun o ho => (by cases ho), (by decide)⟩ h⟩
  | o :: X, h => by
    have hX := fun o ho => h o (List.mem_cons_of_mem _ ho)
    have ih := rcL_is X hX
    have pl := pcO_len X hX
    have er : rcL (o :: X) (some []) = recS (rcL X (some [])) o.1 o.2.1 o.2.2 := rfl
    have fo : fitO (o :: X) = 3 + o.2.2.flatten.length + fitO X := rfl
    rw [er]
    by_cases c : okO X
    · rw [ih.1 c]
      unfold recS
      dsimp only
      constructor
      · intro k
        rw [if_pos ⟨k.1 o List.mem_cons_self, by have := k.2; omega⟩]
        rfl
      · intro k
        rw [if_neg (fun z => k ⟨fun o2 ho => ?_, by omega⟩)]
        rcases List.mem_cons.mp ho with y | y
        · rw [y]; exact z.1
        · exact c.1 o2 y
    · rw [ih.2 c]
      refine ⟨fun k => absurd ⟨fun o2 ho => k.1 o2 (List.mem_cons_of_mem _ ho), by have := k.2; omega⟩ c, fun _ => rfl⟩
theorem adL_none : ∀ (X : List ORD), adL X none = none
  | [] => rfl
  | o :: X => adL_none X
theorem adL_is : ∀ (X Y : List ORD), (∀ o ∈ Y ++ X, ∀ t ∈ o.2.2, 1 ≤ t.length) → okO Y → (okO (Y ++ X) → adL X (some (pcO Y)) = some (pcO (Y ++ X))) ∧ (¬ okO (Y ++ X) → adL X (some (pcO Y)) = none)
  | [], Y, _, hY => by
    rw [List.append_nil]
    exact ⟨fun _ => rfl, fun h => absurd hY h⟩
  | o :: X, Y, h, hY => by
    have pl := pcO_len Y (fun o ho => h o (List.mem_append.mpr (Or.inl ho)))
    have ea : adL (o :: X) (some (pcO Y)) = adL X (addS (some (pcO Y)) o.1 o.2.1 o.2.2) := rfl
    have es : Y ++ o :: X = (Y ++ [o]) ++ X := by simp
    have fy : fitO (Y ++ [o]) = fitO Y + (3 + o.2.2.flatten.length + 0) := by rw [fitO_app]; rfl
    rw [ea]
    unfold addS
    dsimp only
    by_cases c : o.2.1.length ≤ 40 ∧ (pcO Y).flatten.length + 1 + (3 + o.2.2.flatten.length) ≤ 100
    · rw [if_pos c]
      have e1 : pcO Y ++ [ordP o.1 o.2.1 o.2.2] = pcO (Y ++ [o]) := by
        unfold pcO
        rw [List.map_append]
        rfl
      rw [e1, es]
      refine adL_is X (Y ++ [o]) (by rw [← es]; exact h) ⟨fun o2 ho => ?_, by omega⟩
      rcases List.mem_append.mp ho with y | y
      · exact hY.1 o2 y
      · rw [List.mem_singleton] at y
        rw [y]
        exact c.1
    · rw [if_neg c, adL_none]
      refine ⟨fun k => ?_, fun _ => rfl⟩
      exfalso
      refine c ⟨k.1 o (by simp), ?_⟩
      have := k.2
      rw [fitO_app] at this
      have fo : fitO (o :: X) = 3 + o.2.2.flatten.length + fitO X := rfl
      omega
