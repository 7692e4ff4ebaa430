/-! p37: ORDERS by WORDS, as the class lays them -/
abbrev hRep (t : List ND) (T U : List ND) : Prop := U = kyT t (rq T)
def hDel (w : List Int) (T U : List ND) : Prop := ∃ (A : List (List ND)) (e : List ND) (B : List (List ND)), kd T = A ++ e :: B ∧ isK T A e w ∧ U = gpN (T.getD 0 nd0) (A ++ B) (A ++ B).length
def hIns (w : List Int) (t : List ND) (T U : List ND) : Prop := (rk T = 5 ∧ w.length ≤ 12 ∧ (∀ u ∈ kd T, rq u ≠ w) ∧ U = gpN (T.getD 0 nd0) (kd T ++ [kyT t w]) (kd T ++ [kyT t w]).length) ∨ (rk T = 4 ∧ ∃ A B : List (List ND), kd T = A ++ B ∧ plN w = (A.length : Int) ∧ U = gpN (T.getD 0 nd0) (A ++ kyT t [] :: B) (A ++ kyT t [] :: B).length)
/-- an ORDER by WORDS -/
abbrev WRD : Type := Nat × List (List Int) × List (List ND)
def edR (o : WRD) (T U : List ND) : Prop := (o.1 = 21 ∧ ∃ t, o.2.2 = [t] ∧ atR (hRep t) o.2.1 T U) ∨ (o.1 = 25 ∧ o.2.2 = [] ∧ ∃ ws w, o.2.1 = ws ++ [w] ∧ atR (hDel w) ws T U) ∨ (o.1 = 26 ∧ ∃ t ws w, o.2.2 = [t] ∧ o.2.1 = ws ++ [w] ∧ atR (hIns w t) ws T U)
theorem ld_snoc : ∀ (ws : List (List Int)) (T c : List ND) (o : Nat) {A B : List (List ND)} {e : List ND} {w : List Int}, ldP ws T c o → kd c = A ++ e :: B → isK c A e w → ldP (ws ++ [w]) T e (o + (1 + A.flatten.length))
  | [], T, c, o, A, B, e, w, h, hk, hi => by
    obtain ⟨h1, h2⟩ := h
    subst h1 h2
    exact ⟨A, e, B, 0, hk, hi, ⟨rfl, rfl⟩, by omega⟩
  | v :: ws, T, c, o, A, B, e, w, h, hk, hi => by
    obtain ⟨A', e', B', j, k1, i1, l1, ho⟩ := h
    exact ⟨A', e', B', j + (1 + A.flatten.length), k1, i1, ld_snoc ws e' c j l1 hk hi, by omega⟩
/-- what stands at the end, and what it becomes -/
theorem atR_at {h : List ND → List ND → Prop} : ∀ (ws : List (List Int)) (T U : List ND), atR h ws T U → ∃ c c1 o, ldP ws T c o ∧ h c c1 ∧ atR (fun x y => x = c ∧ y = c1) ws T U
  | [], T, U, a => ⟨T, U, 0, ⟨rfl, rfl⟩, a, ⟨rfl, rfl⟩⟩
  | w :: ws, T, U, a => by
    obtain ⟨A, e, e1, B, k1, i1, a1, rfl⟩ := a
    obtain ⟨c, c1, o, l, z, y⟩ := atR_at ws e e1 a1
    exact ⟨c, c1, 1 + A.flatten.length + o, ⟨A, e, B, o, k1, i1, l, rfl⟩, z, ⟨A, e, e1, B, k1, i1, y, rfl⟩⟩
/-- the class's change at the NODE is the change by WORDS -/
theorem upd_is {V U : List ND} {h : List ND → List ND → Prop} {ws : List (List Int)} (hV : SDC V) (a : atR h ws V U) : ∃ c c1 o, ldP ws V c o ∧ h c c1 ∧ o < V.length ∧ sg V o = c ∧ nwF V ws 0 = (o : Int) ∧ ∀ g : List ND → List ND, g c = c1 → updF g V.length V o = U := by
  obtain ⟨c, c1, o, l, z, y⟩ := atR_at ws V U a
  have s0 : sg V 0 = V := sg_self hV.1.1
  have n := nw_ld hV ws 0 c o hV.1.1.2.1 (by rw [s0]; exact l)
  rw [Nat.zero_add] at n
  refine ⟨c, c1, o, l, z, n.2.1, n.2.2, n.1, fun g hg => ?_⟩
  have u := upd_at (h := g) ws V.length V c o (Nat.le_refl _) hV.1 l
  exact atR_one (h := fun x y => y = g x) (fun x y z _ h1 h2 => h1.trans h2.symm) ws V _ U hV u (atR_mono (fun x y hxy => by rw [hxy.1, hxy.2, hg]) ws V U y)
section LAYW
variable {l : List Int} {V U t : List ND} {ws : List (List Int)} {w : List Int}
theorem lay_rep (hV : SDC V) (hw : wds l = ws) (a : atR (hRep t) ws V U) : ldT l V (nW l) ≠ -1 ∧ updF (fun x => kyT t (rq x)) V.length V (ldT l V (nW l)).toNat = U := by
  obtain ⟨c, c1, o, h1, h2, h3, h4, h5, h6⟩ := upd_is hV a
  rw [ldT_nw, hw, h5]
  refine ⟨by omega, ?_⟩
  rw [Int.toNat_natCast]
  exact h6 _ h2.symm
theorem lay_del (hV : SDC V) (hw : wds l = ws ++ [w]) (a : atR (hDel w) ws V U) : lyC l V = some U := by
  obtain ⟨c, c1, o, h1, ⟨A, e, B, k1, i1, e1⟩, h3, h4, h5, h6⟩ := upd_is hV a
  have s0 : sg V 0 = V := sg_self hV.1.1
  have n := nw_ld hV (ws ++ [w]) 0 e (o + (1 + A.flatten.length)) hV.1.1.2.1 (by rw [s0]; exact ld_snoc ws V c o h1 k1 i1)
  rw [Nat.zero_add] at n
  rw [← h4] at k1
  obtain ⟨K1, K2, q1, q2, q3, q4, q5⟩ := kd_num hV.1 h3 k1
  have ow := kid_own hV.1.1.1 (pz_l hV.1.2) q1
  have en : o + (1 + A.flatten.length) = o + 1 + A.flatten.length := by omega
  rw [en] at n
  unfold lyC
  have nw : nW l ≠ 0 := by rw [(ldT_up (V := V) hw).1]; omega
  rw [ldT_nw, hw, show nwF V (ws ++ [w]) 0 = _ from n.1, if_neg (by omega), Int.toNat_natCast]
  unfold cutT
  rw [ow.1, ow.2, Int.toNat_natCast, Int.toNat_natCast]
  have lK : K1.length = A.length := by rw [← q2, List.length_map]
  rw [h6 (delT K1.length) ?_]
  rw [e1]
  unfold delT
  rw [← h4, k1, lK, List.take_left' rfl, List.drop_append, List.drop_eq_nil_of_le (by omega), show A.length + 1 - A.length = 1 by omega]
  rfl
theorem lay_ins (hV : SDC V) (hw : wds l = ws ++ [w]) (a : atR (hIns w t) ws V U) (hp : pOK U) : lyP l V t = some U := by
  obtain ⟨c, c1, o, h1, h2, h3, h4, h5, h6⟩ := upd_is hV a
  have hz := pz_l hV.1.2
  have rn : rk c = nk V o := by rw [← h4]; exact rk_sg h3 (hz o)
  have kc : kd c = (kids V o).map (sg V) := by rw [← h4]; exact kd_sg hV.1.2 hV.1.1.1 h3
  have lk : (kd c).length = (kids V o).length := by rw [kc, List.length_map]
  obtain ⟨n1, n2, n3⟩ := ldT_up (V := V) hw
  have nw : nW l ≠ 0 := by omega
  unfold lyP
  rcases h2 with ⟨r5, wl, no, e1⟩ | ⟨r4, A, B, k1, pw, e1⟩
  · have vl : vLk V (o : Int) w = -1 := by
      rw [vLk_n h3, if_pos (by omega)]
      refine fdK_miss _ (fun x hx => ?_)
      have hx' : x < V.length := kids_in hV.1.1.1 hz h3 hx
      rw [← rq_sg hx' (hz x)]
      exact no _ (by rw [kc]; exact List.mem_map_of_mem hx)
    have ea : aimS l V = some (false, o, o + nz V o, (kids V o).length) := by
      unfold aimS
      rw [if_neg nw, n3, n2, h5, if_pos (by rw [kdI_n h3]; omega), vl, if_pos rfl, if_pos wl, Int.toNat_natCast]
    have ep : putT l V (false, o, o + nz V o, (kids V o).length) t = U := by
      unfold putT
      rw [if_neg (fun z => Bool.false_ne_true z)]
      refine h6 _ ?_
      rw [e1]
      have ek : kyA l V o = w := by unfold kyA; rw [if_pos (by omega), n2]
      show insT (kids V o).length (kyT t (kyA l V o)) c = _
      unfold insT
      rw [ek, ← lk, List.take_length, List.drop_length]
    rw [ea]
    dsimp only
    rw [ep, if_pos hp]
  · have lA : A.length ≤ (kids V o).length := by rw [← lk, k1, List.length_append]; omega
    have w45 : w ≠ sx 20 := fun z => by
      rw [z, sx_20] at pw
      have : plN [45] = -1 := by decide
      omega
    have er : pRow l V o = (A.length : Int) := by
      unfold pRow
      rw [n2, if_neg w45, pw]
    obtain ⟨x, ea⟩ : ∃ x, aimS l V = some (false, o, x, A.length) := by
      unfold aimS
      rw [if_neg nw, n3, n2, h5, if_neg (by rw [kdI_n h3]; omega), if_pos (by rw [kdI_n h3]; omega), Int.toNat_natCast, er, if_pos (by omega), Int.toNat_natCast]
      exact ⟨_, rfl⟩
    have ep : putT l V (false, o, x, A.length) t = U := by
      unfold putT
      rw [if_neg (fun z => Bool.false_ne_true z)]
      refine h6 _ ?_
      rw [e1]
      have ek : kyA l V o = [] := by unfold kyA; rw [if_neg (by omega)]
      show insT A.length (kyT t (kyA l V o)) c = _
      unfold insT
      rw [ek, k1, List.take_left' rfl, List.drop_left' rfl]
    rw [ea]
    dsimp only
    rw [ep, if_pos hp]
end LAYW
/-! an ORDER as it stands in a PATCH -/
theorem vlk_at {U : List ND} (hU : TR U ∧ PZL U) {c : Nat} (hc : c < U.length) (h5 : nk U c = 5) {A B : List (List ND)} {e : List ND} {q : List Int} (hk : kd (sg U c) = A ++ e :: B) (hq : rq e = q) (hA : ∀ t ∈ A, rq t ≠ q) : vLk U (c : Int) q = ((c + 1 + A.flatten.length : Nat) : Int) ∧ c + 1 + A.flatten.length < U.length ∧ sg U (c + 1 + A.flatten.length) = e := by
  obtain ⟨K1, K2, k1, k2, k3, k4, k5⟩ := kd_num hU hc hk
  have hz := pz_l hU.2
  refine ⟨?_, k5, k3⟩
  rw [vLk_n hc, if_pos h5, k1]
  refine fdK_hit ?_ K1 (fun x hx => ?_)
  · rw [← rq_sg k5 (hz _), k3]; exact hq
  · have hx' : x < U.length := kids_in hU.1.1 hz hc (by rw [k1]; exact List.mem_append_left _ hx)
    rw [← rq_sg hx' (hz x)]
    exact hA _ (by rw [← k2]; exact List.mem_map_of_mem hx)
theorem vlk_no {U : List ND} (hU : TR U ∧ PZL U) {c : Nat} (hc : c < U.length) {q : List Int} (hA : ∀ t ∈ kd (sg U c), rq t ≠ q) : vLk U (c : Int) q = -1 := by
  have hz := pz_l hU.2
  rw [vLk_n hc]
  split
  · refine fdK_miss _ (fun x hx => ?_)
    rw [← rq_sg (kids_in hU.1.1 hz hc hx) (hz x)]
    exact hA _ (by rw [kd_sg hU.2 hU.1.1 hc]; exact List.mem_map_of_mem hx)
  · rfl
theorem ord_at {U : List ND} (hU : TR U ∧ PZL U) {c op : Nat} (hc : c < U.length) {p : List Int} {v : List (List ND)} (hv : ∀ t ∈ v, TR t ∧ PZL t) (hs : sg U c = ordP op p v) : nk U c = 5 ∧ (kdI U (opI U c) = 3 ∧ tI U (opI U c) = sx op) ∧ (kdI U (wyI U c) = 3 ∧ tI U (wyI U c) = p) ∧ (v = [] → vaI U c = -1) ∧ ∀ t, v = [t] → vaI U c ≠ -1 ∧ sg U (vaI U c).toNat = kyT t (sx 24) := by
  have hz := pz_l hU.2
  have lf : ∀ x : ND, x.2.1 = 1 → TR [x] ∧ PZL [x] := fun x hx => ⟨tr_leaf hx, pzl_one hx⟩
  have hE : ∀ T ∈ [[((3, 1, 0, sx op, sx 22) : ND)], [(3, 1, 0, p, sx 23)]] ++ v.map (fun t => kyT t (sx 24)), TR T ∧ PZL T := fun T hT => by
    rcases List.mem_append.mp hT with z | z
    · simp only [List.mem_cons, List.not_mem_nil, or_false] at z
      rcases z with rfl | rfl
      · exact lf _ rfl
      · exact lf _ rfl
    · obtain ⟨t, ht, rfl⟩ := List.mem_map.mp z
      exact ⟨tr_ky (hv t ht).1, pzl_ky (hv t ht).1.2.1 (hv t ht).2⟩
  have ek : kd (sg U c) = [[((3, 1, 0, sx op, sx 22) : ND)], [(3, 1, 0, p, sx 23)]] ++ v.map (fun t => kyT t (sx 24)) := by
    rw [hs]
    exact kd_gp hE
  have n5 : nk U c = 5 := by
    rw [← rk_sg hc (hz c), hs]
    rfl
  have ne1 : sx 22 ≠ sx 23 := by decide +kernel
  have ne2 : sx 22 ≠ sx 24 := by decide +kernel
  have ne3 : sx 23 ≠ sx 24 := by decide +kernel
  have leaf : ∀ {q : List Int} {a : Nat} {i : Int} {tx : List Int}, i = (a : Int) → a < U.length → sg U a = [((3, 1, 0, tx, q) : ND)] → kdI U i = 3 ∧ tI U i = tx := by
    intro q a i tx hi ha e
    have k1 := rk_sg ha (hz a)
    have k2 := rt_sg ha (hz a)
    rw [e] at k1 k2
    have k1 : (3 : Int) = nk U a := k1
    have k2 : tx = nt U a := k2
    rw [hi]
    refine ⟨by rw [kdI_n ha]; exact k1.symm, ?_⟩
    unfold tI
    rw [if_pos (by omega), Int.toNat_natCast]
    exact k2.symm
  obtain ⟨o1, o2, o3⟩ := vlk_at hU hc n5 (A := []) (q := sx 22) (hk := ek) rfl (fun t ht => by cases ht)
  obtain ⟨w1, w2, w3⟩ := vlk_at hU hc n5 (A := [[((3, 1, 0, sx op, sx 22) : ND)]]) (q := sx 23) (hk := ek) rfl (fun t ht => by
    simp only [List.mem_cons, List.not_mem_nil, or_false] at ht
    rw [ht]; exact ne1)
  refine ⟨n5, leaf o1 o2 o3, leaf w1 w2 w3, fun z => ?_, fun t z => ?_⟩
  · subst z
    refine vlk_no hU hc (fun t ht => ?_)
    rw [ek] at ht
    simp only [List.map_nil, List.append_nil, List.mem_cons, List.not_mem_nil, or_false] at ht
    rcases ht with rfl | rfl
    · exact ne2
    · exact ne3
  · subst z
    obtain ⟨v1, v2, v3⟩ := vlk_at hU hc n5 (A := [[((3, 1, 0, sx op, sx 22) : ND)], [(3, 1, 0, p, sx 23)]]) (e := kyT t (sx 24)) (B := []) (q := sx 24) (hk := ek) rfl (fun t ht => by
      simp only [List.mem_cons, List.not_mem_nil, or_false] at ht
      rcases ht with rfl | rfl
      · exact ne2
      · exact ne3)
    have v1 : vaI U c = _ := v1
    rw [v1, Int.toNat_natCast]
    exact ⟨by omega, v3⟩
/-- an ORDER of a PATCH is laid -/
theorem lo_ed {U V W : List ND} {c op : Nat} {p : List Int} {v : List (List ND)} {ws : List (List Int)} (hU : TR U ∧ PZL U) (hV : DOC V) (hc : c < U.length) (hv : ∀ t ∈ v, TR t ∧ PZL t) (hs : sg U c = ordP op p v) (hp : isP p) (hw : wds p = ws) (h : edR (op, ws, v) V W) (hW : pOK W) : loS U c V = some W := by
  obtain ⟨n5, ⟨o1, o2⟩, ⟨w1, w2⟩, v0, v1⟩ := ord_at hU hc hv hs
  have s25 : opK (sx 25) = 1 := opK_at 1 (by decide)
  have s26 : opK (sx 26) = 0 := opK_at 0 (by decide)
  have s21 : opK (sx 21) = 2 := opK_at 2 (by decide)
  rw [lyS_op hU hV]
  have en : ∀ k, opK (sx op) = k → tlQ U c k → opN U c = k := fun k e tq => by
    unfold opN
    rw [o2, if_pos ⟨⟨n5, w1, by rw [w2]; exact hp⟩, o1, by rw [e]; exact tq⟩, e]
  rcases h with ⟨e1, t, e2, a⟩ | ⟨e1, e2, ws', w, e3, a⟩ | ⟨e1, t, ws', w, e2, e3, a⟩
  · have e1 : op = 21 := e1
    have e2 : v = [t] := e2
    have a : atR (hRep t) ws V W := a
    subst e1
    obtain ⟨x1, x2⟩ := v1 t e2
    rw [en 2 s21 (by unfold tlQ; rw [if_neg (by decide)]; exact Or.inr x1), if_neg (by decide), if_neg (by decide), if_neg (by decide), if_pos rfl, w2, x2]
    obtain ⟨y1, y2⟩ := lay_rep hV.1 hw a
    have y2 : updF (fun x => kyT (kyT t (sx 24)) (rq x)) V.length V (ldT p V (nW p)).toNat = W := y2
    rw [if_neg y1, y2, if_pos hW]
  · have e1 : op = 25 := e1
    have e2 : v = [] := e2
    have e3 : ws = ws' ++ [w] := e3
    subst e1
    rw [en 1 s25 (by unfold tlQ; rw [if_neg (by decide)]; exact Or.inl rfl), if_neg (by decide), if_neg (by decide), if_pos rfl, w2]
    exact lay_del hV.1 (hw.trans e3) a
  · have e1 : op = 26 := e1
    have e2 : v = [t] := e2
    have e3 : ws = ws' ++ [w] := e3
    subst e1
    obtain ⟨x1, x2⟩ := v1 t e2
    rw [en 0 s26 (by unfold tlQ; rw [if_neg (by decide)]; exact Or.inr x1), if_neg (by decide), if_pos rfl, w2, x2, lyP_ky]
    exact lay_ins hV.1 (hw.trans e3) a hW
