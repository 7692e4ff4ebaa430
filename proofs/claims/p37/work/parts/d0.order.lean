/-! ORDERS: one is added to a tree -/
def ordW (W : TW) (op : Nat) (p : List Int) (U : List ND) (ou : Bool) (v : Int) : TW :=
  let W2 := aNd (aNd W 5) 3
  let w := addA (aNd W 5).1
  let W4 := aSgs (stK W2 w (sx 22)) w (sx op)
  let y := addA W4.1
  let W7 := aSgs (stK (aNd W4 3) y (sx 23)) y p
  if v = -1 then clo W7 (addA W.1) else clo (stK (apW W7 U ou v) (apA W7 U ou v) (sx 24)) (addA W.1)
/-- an ORDER as a piece -/
def ordP (op : Nat) (p : List Int) (v : List (List ND)) : List ND := gpN (ndK 5) ([[(3, 1, 0, sx op, sx 22)], [(3, 1, 0, p, sx 23)]] ++ v.map (fun t => kyT t (sx 24))) (2 + v.length)
theorem aNd_f {W : TW} {k : Int} (h : (aNd W k).2 = false) : W.2 = false ∧ W.1.length < 100 ∧ aNd W k = (W.1 ++ [ndK k], false) := by
  unfold aNd at h ⊢
  by_cases c : W.1.length < 100
  · rw [if_pos c] at h ⊢
    exact ⟨h, c, by rw [show W.2 = false from h]⟩
  · rw [if_neg c] at h
    cases h
theorem aSg_f {W : TW} {i a : Int} (h : (aSg W i a).2 = false) : W.2 = false ∧ (0 ≤ i ∧ i < (W.1.length : Int) ∧ (nt W.1 i.toNat).length < 40) := by
  unfold aSg at h
  by_cases c : 0 ≤ i ∧ i < (W.1.length : Int) ∧ (nt W.1 i.toNat).length < 40
  · rw [if_pos c] at h; exact ⟨h, c⟩
  · rw [if_neg c] at h; cases h
theorem aSgs_f {i : Int} : ∀ (l : List Int) (W : TW), (aSgs W i l).2 = false → W.2 = false ∧ (l = [] ∨ (0 ≤ i ∧ i < (W.1.length : Int) ∧ (nt W.1 i.toNat).length + l.length ≤ 40))
  | [], W, h => ⟨h, Or.inl rfl⟩
  | a :: l, W, h => by
    have k := aSgs_f l (aSg W i a) h
    have k2 := aSg_f k.1
    refine ⟨k2.1, Or.inr ⟨k2.2.1, k2.2.2.1, ?_⟩⟩
    rcases k.2 with z | z
    · rw [z]
      have := k2.2.2.2
      simp
      omega
    · have e : (nt (aSg W i a).1 i.toNat).length = (nt W.1 i.toNat).length + 1 := by
        unfold aSg
        rw [if_pos k2.2]
        show (nt (W.1.set i.toNat _) i.toNat).length = _
        unfold nt
        rw [getD_set_s (by omega)]
        show ((W.1.getD i.toNat nd0).2.2.2.1 ++ [a]).length = _
        simp
      have := z.2.2
      rw [e] at this
      simp only [List.length_cons]
      omega
theorem aKs_f {W : TW} {i a : Int} (h : (aKs W i a).2 = false) : W.2 = false ∧ (0 ≤ i ∧ i < (W.1.length : Int)) := by
  unfold aKs at h
  by_cases c : 0 ≤ i ∧ i < (W.1.length : Int) ∧ (nq W.1 i.toNat).length < 12
  · rw [if_pos c] at h; exact ⟨h, c.1, c.2.1⟩
  · rw [if_neg c] at h; cases h
theorem aKss_f {i : Int} : ∀ (l : List Int) (W : TW), (aKss W i l).2 = false → W.2 = false ∧ (l = [] ∨ (0 ≤ i ∧ i < (W.1.length : Int)))
  | [], W, h => ⟨h, Or.inl rfl⟩
  | a :: l, W, h => by
    have k := aKss_f l (aKs W i a) h
    have k2 := aKs_f k.1
    exact ⟨k2.1, Or.inr k2.2⟩
theorem cKy_2 {W : TW} {i : Int} : (cKy W i).2 = W.2 ∧ (cKy W i).1.length = W.1.length := by
  unfold cKy
  split
  · exact ⟨rfl, by simp⟩
  · exact ⟨rfl, rfl⟩
theorem stK_f {W : TW} {i : Int} {l : List Int} (h : (stK W i l).2 = false) : W.2 = false ∧ (l = [] ∨ (0 ≤ i ∧ i < (W.1.length : Int))) := by
  have k := aKss_f l (cKy W i) h
  rw [cKy_2.1, cKy_2.2] at k
  exact k
theorem clo_2 {W : TW} {i : Int} : (clo W i).2 = W.2 := by
  unfold clo
  split <;> rfl
theorem apW_f {W : TW} {U : List ND} {ou : Bool} {v : Int} (h : (apW W U ou v).2 = false) : W.2 = false ∧ ou = false ∧ 1 ≤ szI U v ∧ (W.1.length : Int) + szI U v ≤ 100 := by
  unfold apW at h
  by_cases c : ou = false ∧ 1 ≤ szI U v ∧ (W.1.length : Int) + szI U v ≤ 100
  · rw [if_pos c] at h; exact ⟨h, c⟩
  · rw [if_neg c] at h; cases h
theorem sx_ops : ∀ t, 21 ≤ t → t ≤ 30 → 1 ≤ (sx t).length ∧ (sx t).length ≤ 12 := by
  intro t h1 h2
  rw [sx_len]
  have : ∀ t, t < 31 → 21 ≤ t → 1 ≤ xlen.getD t 0 ∧ xlen.getD t 0 ≤ 12 := by decide +kernel
  exact this t (by omega) h1
theorem set_endT {V : List ND} {x y : ND} {A : List ND} {n : Nat} (h : n = V.length) : (V ++ x :: A).set n y = V ++ y :: A := by
  subst h
  rw [List.set_append_right _ _ (Nat.le_refl _), Nat.sub_self, List.set_cons_zero]
theorem get_endT {V : List ND} {x : ND} {A : List ND} {n : Nat} (h : n = V.length) : (V ++ x :: A).getD n nd0 = x := by
  subst h
  rw [List.getD_eq_getElem?_getD, List.getElem?_append_right (Nat.le_refl _), Nat.sub_self]
  rfl
theorem text_node {V : List ND} {k t : List Int} (h : V.length < 100) (hk : k.length ≤ 12) (ht : t.length ≤ 40) : aSgs (stK (aNd (V, false) 3) (addA V) k) (addA V) t = (V ++ [(3, 1, 0, t, k)], false) := by
  rw [aNd_ok h, addA_ok h, stK_ok (by simp) hk]
  have e1 : (V ++ [ndK 3]).set V.length (wQ ((V ++ [ndK 3]).getD V.length nd0) k) = V ++ [(3, 1, 0, [], k)] := by
    rw [get_end, set_end]
    rfl
  show aSgs ((V ++ [ndK 3]).set V.length (wQ ((V ++ [ndK 3]).getD V.length nd0) k), false) _ t = _
  rw [e1]
  have e2 : nt (V ++ [((3 : Int), 1, (0 : Int), ([] : List Int), k)]) V.length = [] := by unfold nt; rw [get_end]
  rw [aSgs_ok t _ V.length (by simp) (by rw [e2]; simpa using ht)]
  show ((V ++ [((3 : Int), 1, (0 : Int), ([] : List Int), k)]).set V.length _, false) = _
  rw [get_end, set_end, e2]
  rfl
/-- an ORDER that fits -/
theorem ordW_ok {V : List ND} {op : Nat} {p : List Int} {U : List ND} {v : Int} (h1 : 21 ≤ op ∧ op ≤ 30) (hp : p.length ≤ 40) (hv : (v = -1 ∧ V.length + 3 ≤ 100) ∨ (0 ≤ v ∧ v < (U.length : Int) ∧ PZ U ∧ WF U ∧ V.length + 3 + nz U v.toNat ≤ 100)) : ordW (V, false) op p U false v = (V ++ ordP op p (if v = -1 then [] else [sg U v.toNat]), false) := by
  have hl : V.length + 3 ≤ 100 := by rcases hv with z | z <;> omega
  have o1 := sx_ops op h1.1 h1.2
  have o2 := sx_ops 22 (by decide) (by decide)
  have o3 := sx_ops 23 (by decide) (by decide)
  have o4 := sx_ops 24 (by decide) (by decide)
  unfold ordW
  have a1 : aNd (V, false) 5 = (V ++ [ndK 5], false) := aNd_ok (by omega)
  have l1 : (V ++ [ndK 5]).length = V.length + 1 := by simp
  have t1 := text_node (V := V ++ [ndK 5]) (k := sx 22) (t := sx op) (by omega) o2.2 (by omega)
  have l2 : (V ++ [ndK 5] ++ [((3 : Int), 1, (0 : Int), sx op, sx 22)]).length = V.length + 2 := by simp
  have t2 := text_node (V := V ++ [ndK 5] ++ [((3 : Int), 1, (0 : Int), sx op, sx 22)]) (k := sx 23) (t := p) (by omega) o3.2 hp
  simp only [a1, t1, t2]
  have e0 : addA V = (V.length : Int) := addA_ok (by omega)
  have e0' : addA (V, false).1 = (V.length : Int) := e0
  rw [e0']
  rcases hv with ⟨z, -⟩ | ⟨z1, z2, zz, zw, z3⟩
  · rw [if_pos z, if_pos z]
    unfold clo
    rw [if_pos ⟨by omega, by simp; omega⟩]
    rw [Int.toNat_natCast]
    show ((V ++ [ndK 5] ++ [((3 : Int), 1, (0 : Int), sx op, sx 22)] ++ [((3 : Int), 1, (0 : Int), p, sx 23)]).set V.length _, false) = _
    have ea : V ++ [ndK 5] ++ [((3 : Int), 1, (0 : Int), sx op, sx 22)] ++ [((3 : Int), 1, (0 : Int), p, sx 23)] = V ++ ndK 5 :: [((3 : Int), 1, (0 : Int), sx op, sx 22), ((3 : Int), 1, (0 : Int), p, sx 23)] := by simp
    rw [ea, set_endT rfl, get_endT rfl]
    unfold ordP gpN
    simp
  · rw [if_neg (by omega), if_neg (by omega)]
    have hvn : v.toNat < U.length := by omega
    have sz : szI U v = (nz U v.toNat : Int) := by unfold szI; rw [if_pos ⟨z1, z2⟩]
    have zn := zz v.toNat
    have l3 : (V ++ [ndK 5] ++ [((3 : Int), 1, (0 : Int), sx op, sx 22)] ++ [((3 : Int), 1, (0 : Int), p, sx 23)]).length = V.length + 3 := by simp
    have c1 : false = false ∧ 1 ≤ szI U v ∧ ((V ++ [ndK 5] ++ [((3 : Int), 1, (0 : Int), sx op, sx 22)] ++ [((3 : Int), 1, (0 : Int), p, sx 23)]).length : Int) + szI U v ≤ 100 := ⟨rfl, by omega, by omega⟩
    have b1 : apW (V ++ [ndK 5] ++ [((3 : Int), 1, (0 : Int), sx op, sx 22)] ++ [((3 : Int), 1, (0 : Int), p, sx 23)], false) U false v = (V ++ [ndK 5] ++ [((3 : Int), 1, (0 : Int), sx op, sx 22)] ++ [((3 : Int), 1, (0 : Int), p, sx 23)] ++ sg U v.toNat, false) := by
      unfold apW
      rw [if_pos c1, sz, Int.toNat_natCast]
      rfl
    have b2 : apA (V ++ [ndK 5] ++ [((3 : Int), 1, (0 : Int), sx op, sx 22)] ++ [((3 : Int), 1, (0 : Int), p, sx 23)], false) U false v = ((V.length + 3 : Nat) : Int) := by
      unfold apA
      rw [if_pos c1]
      show ((V ++ [ndK 5] ++ [((3 : Int), 1, (0 : Int), sx op, sx 22)] ++ [((3 : Int), 1, (0 : Int), p, sx 23)]).length : Int) = _
      rw [l3]
    rw [b1, b2]
    have es := sg_cons hvn zn
    have lsg := sg_len zw hvn
    rw [stK_ok (by show _ < (V ++ [ndK 5] ++ [((3 : Int), 1, (0 : Int), sx op, sx 22)] ++ [((3 : Int), 1, (0 : Int), p, sx 23)] ++ sg U v.toNat).length; rw [List.length_append, l3]; omega) o4.2]
    show clo ((V ++ [ndK 5] ++ [((3 : Int), 1, (0 : Int), sx op, sx 22)] ++ [((3 : Int), 1, (0 : Int), p, sx 23)] ++ sg U v.toNat).set (V.length + 3) (wQ ((V ++ [ndK 5] ++ [((3 : Int), 1, (0 : Int), sx op, sx 22)] ++ [((3 : Int), 1, (0 : Int), p, sx 23)] ++ sg U v.toNat).getD (V.length + 3) nd0) (sx 24)), false) _ = _
    rw [es, set_endT l3.symm, get_endT l3.symm]
    unfold clo
    rw [if_pos ⟨by omega, by simp; omega⟩, Int.toNat_natCast]
    have ea : V ++ [ndK 5] ++ [((3 : Int), 1, (0 : Int), sx op, sx 22)] ++ [((3 : Int), 1, (0 : Int), p, sx 23)] ++ wQ (U.getD v.toNat nd0) (sx 24) :: seg U (v.toNat + 1) (nz U v.toNat - 1) = V ++ ndK 5 :: [((3 : Int), 1, (0 : Int), sx op, sx 22), ((3 : Int), 1, (0 : Int), p, sx 23)] ++ wQ (U.getD v.toNat nd0) (sx 24) :: seg U (v.toNat + 1) (nz U v.toNat - 1) := by simp
    show ((V ++ [ndK 5] ++ [((3 : Int), 1, (0 : Int), sx op, sx 22)] ++ [((3 : Int), 1, (0 : Int), p, sx 23)] ++ wQ (U.getD v.toNat nd0) (sx 24) :: seg U (v.toNat + 1) (nz U v.toNat - 1)).set V.length (wZ ((V ++ [ndK 5] ++ [((3 : Int), 1, (0 : Int), sx op, sx 22)] ++ [((3 : Int), 1, (0 : Int), p, sx 23)] ++ wQ (U.getD v.toNat nd0) (sx 24) :: seg U (v.toNat + 1) (nz U v.toNat - 1)).getD V.length nd0) _), false) = _
    have eb : V ++ ndK 5 :: [((3 : Int), 1, (0 : Int), sx op, sx 22), ((3 : Int), 1, (0 : Int), p, sx 23)] ++ wQ (U.getD v.toNat nd0) (sx 24) :: seg U (v.toNat + 1) (nz U v.toNat - 1) = V ++ ndK 5 :: ([((3 : Int), 1, (0 : Int), sx op, sx 22), ((3 : Int), 1, (0 : Int), p, sx 23)] ++ wQ (U.getD v.toNat nd0) (sx 24) :: seg U (v.toNat + 1) (nz U v.toNat - 1)) := by simp
    rw [ea, eb, set_endT rfl, get_endT rfl]
    unfold ordP gpN
    have ek : kyT (sg U v.toNat) (sx 24) = wQ (U.getD v.toNat nd0) (sx 24) :: seg U (v.toNat + 1) (nz U v.toNat - 1) := by rw [es]; rfl
    simp [ek]
    refine ⟨?_, rfl⟩
    have l9 : (kyT (U[v.toNat]?.getD nd0 :: seg U (v.toNat + 1) (nz U v.toNat - 1)) (sx 24)).length = (seg U (v.toNat + 1) (nz U v.toNat - 1)).length + 1 := rfl
    rw [l9]
    congr 1
    omega
theorem ordW_no {W : TW} {op : Nat} {p : List Int} {U : List ND} {ou : Bool} {v : Int} (h1 : 21 ≤ op ∧ op ≤ 30) (h : (ordW W op p U ou v).2 = false) : W.2 = false ∧ p.length ≤ 40 ∧ ((v = -1 ∧ W.1.length + 3 ≤ 100) ∨ (v ≠ -1 ∧ ou = false ∧ 1 ≤ szI U v ∧ (W.1.length : Int) + 3 + szI U v ≤ 100)) := by
  have o1 := sx_ops op h1.1 h1.2
  have o2 := sx_ops 22 (by decide) (by decide)
  have o3 := sx_ops 23 (by decide) (by decide)
  unfold ordW at h
  -- the last tree ahead of a VALUE is sound
  have key : ∀ W7 : TW, W7 = aSgs (stK (aNd (aSgs (stK (aNd (aNd W 5) 3) (addA (aNd W 5).1) (sx 22)) (addA (aNd W 5).1) (sx op)) 3) (addA (aSgs (stK (aNd (aNd W 5) 3) (addA (aNd W 5).1) (sx 22)) (addA (aNd W 5).1) (sx op)).1) (sx 23)) (addA (aSgs (stK (aNd (aNd W 5) 3) (addA (aNd W 5).1) (sx 22)) (addA (aNd W 5).1) (sx op)).1) p → W7.2 = false → W.2 = false ∧ p.length ≤ 40 ∧ W.1.length + 3 ≤ 100 ∧ W7.1.length = W.1.length + 3 := by
    intro W7 e7 h7
    rw [e7] at h7
    have f1 := aSgs_f p _ h7
    have f2 := stK_f f1.1
    have f3 := aNd_f f2.1
    have f4 := aSgs_f (sx op) _ f3.1
    have f5 := stK_f f4.1
    have f6 := aNd_f f5.1
    have f7 := aNd_f f6.1
    obtain ⟨V, rfl⟩ : ∃ V, W = (V, false) := ⟨W.1, by rw [← f7.1]⟩
    have a1 : aNd (V, false) 5 = (V ++ [ndK 5], false) := f7.2.2
    have l1 : (V ++ [ndK 5]).length = V.length + 1 := by simp
    have c1 : V.length + 1 < 100 := by
      have := f6.2.1
      rw [a1] at this
      rw [← l1]
      exact this
    have t1 := text_node (V := V ++ [ndK 5]) (k := sx 22) (t := sx op) (by omega) o2.2 (by omega)
    have l2 : (V ++ [ndK 5] ++ [((3 : Int), 1, (0 : Int), sx op, sx 22)]).length = V.length + 2 := by simp
    have c2 : V.length + 2 < 100 := by
      have := f3.2.1
      rw [a1] at this
      have t1' : aSgs (stK (aNd (V ++ [ndK 5], false) 3) (addA (V ++ [ndK 5], false).1) (sx 22)) (addA (V ++ [ndK 5], false).1) (sx op) = _ := t1
      rw [t1'] at this
      rw [← l2]
      exact this
    have c3 : p.length ≤ 40 := by
      rcases f1.2 with z | z
      · rw [z]; exact Nat.zero_le _
      · omega
    have t2 := text_node (V := V ++ [ndK 5] ++ [((3 : Int), 1, (0 : Int), sx op, sx 22)]) (k := sx 23) (t := p) (by omega) o3.2 c3
    refine ⟨rfl, c3, by show V.length + 3 ≤ 100; omega, ?_⟩
    rw [e7, a1]
    have t1' : aSgs (stK (aNd (V ++ [ndK 5], false) 3) (addA (V ++ [ndK 5], false).1) (sx 22)) (addA (V ++ [ndK 5], false).1) (sx op) = _ := t1
    rw [t1']
    show (aSgs (stK (aNd (V ++ [ndK 5] ++ [((3 : Int), 1, (0 : Int), sx op, sx 22)], false) 3) (addA (V ++ [ndK 5] ++ [((3 : Int), 1, (0 : Int), sx op, sx 22)])) (sx 23)) (addA (V ++ [ndK 5] ++ [((3 : Int), 1, (0 : Int), sx op, sx 22)])) p).1.length = _
    rw [t2]
    simp
  by_cases c : v = -1
  · simp only [if_pos c] at h
    rw [clo_2] at h
    have k := key _ rfl h
    exact ⟨k.1, k.2.1, Or.inl ⟨c, k.2.2.1⟩⟩
  · simp only [if_neg c] at h
    rw [clo_2] at h
    have f1 := stK_f h
    have f2 := apW_f f1.1
    have k := key _ rfl f2.1
    refine ⟨k.1, k.2.1, Or.inr ⟨c, f2.2.1, f2.2.2.1, ?_⟩⟩
    have := f2.2.2.2
    rw [k.2.2.2] at this
    omega
section ORD
variable {S S0 : GS} {c s d : Nat} {W : TW} {p : List Int}
theorem or_70 {c2 : Nat} {U : List ND} {ou : Bool} {v y o : Int} (hc : gT c) (hc2 : gT c2) (hne : c2 ≠ c) (hs : gSh s) (hd : 6 ≤ d) (hu : TO c2 (U, ou) S0) (hin : v = -1 ∨ (0 ≤ v ∧ v < (U.length : Int) ∧ v + szI U v ≤ U.length)) (hp : SV S0 s p) (hp2 : ∀ x ∈ p, x < 256) (hy : inr y) (ho : inr o) : ∀ (m t : Nat) (S : GS) (W : TW), p.length - t < m → t ≤ p.length → TY c S0 W S → Ev (fun n => f_X5_add n d 70 S [((c : Nat) : Int), ((s : Nat) : Int), ((c2 : Nat) : Int), v, o, y, (t : Int)]) (fun _ S1 => TY c S0 (if v = -1 then clo (aSgs W y (p.drop t)) o else clo (stK (apW (aSgs W y (p.drop t)) U ou v) (apA (aSgs W y (p.drop t)) U ou v) (sx 24)) o) S1) := by
  have lp := sv_le hp
  intro m
  induction m with
  | zero => intros; omega
  | succ m ih =>
    intro t S W h1 h2 h
    have hp' := sv_ty hc hs hp h
    have hu' : TO c2 (U, ou) S := to_fr hu h.2.2.1 (fun k a b => by unfold trM; omega)
    have lU := tv_l hu.1
    have lU' : U.length ≤ 100 := lU
    by_cases ht : t < p.length
    · have r0 := sv_at hp' ht
      have r1 := hp2 _ (gD_mem ht)
      rw [drop_one ht]
      have as := ty_addSign (d := d - 1) (i := y) (a := p.getD t 0) hc h hy (by omega)
      refine ev_up (fun n => e_X5_add_70) ?_
      unfold b_X5_add_70
      repeat' (first
        | with_reducible refine ev_gv ?_
        | with_reducible refine ev_gg ?_ ?_
        | with_reducible refine ev_ite (fun _ => ?_) (fun _ => ?_)
        | refine ev_gcr (s9_length hs hp') ?_
        | refine ev_gcr (rd_as (s9_at (i := (t : Int)) hs hp' (by constructor <;> omega)) (atD_nat ht)) ?_
        | omega
        | assumption)
      refine ev_gc as (fun _ S1 q1 => ?_)
      refine ev_gv ?_
      exact ih (t + 1) S1 _ (by omega) (by omega) q1
    · rw [List.drop_eq_nil_of_le (by omega)]
      have e0 : aSgs W y [] = W := rfl
      rw [e0]
      by_cases hv : v = -1
      · rw [if_pos hv]
        have cl := ty_close (d := d - 1) (i := o) hc (by omega) h ho
        refine ev_up (fun n => e_X5_add_70) ?_
        unfold b_X5_add_70
        repeat' (first
          | with_reducible refine ev_gv ?_
          | with_reducible refine ev_gg ?_ ?_
          | with_reducible refine ev_ite (fun _ => ?_) (fun _ => ?_)
          | refine ev_gcr (s9_length hs hp') ?_
          | omega
          | assumption)
        refine ev_gc cl (fun _ S1 q1 => ?_)
        exact ev_ret q1
      · rw [if_neg hv]
        have hv' : 0 ≤ v ∧ v < (U.length : Int) ∧ v + szI U v ≤ U.length := by rcases hin with z | z; exact absurd z hv; exact z
        have ap := ty_append (d := d - 1) (f := v) (U := U) (o := ou) hc hc2 hne (by omega) hu'.1 hu'.2 (by constructor <;> omega) (Or.inl hv'.2.2) h
        refine ev_up (fun n => e_X5_add_70) ?_
        unfold b_X5_add_70
        repeat' (first
          | with_reducible refine ev_gv ?_
          | with_reducible refine ev_gg ?_ ?_
          | with_reducible refine ev_ite (fun _ => ?_) (fun _ => ?_)
          | refine ev_gcr (s9_length hs hp') ?_
          | omega
          | assumption)
        refine ev_gc ap (fun x S1 q1 => ?_)
        obtain ⟨rfl, q1⟩ := q1
        have lW := tv_l h.1
        have ra : inr (apA W U ou v) := by unfold apA; split <;> constructor <;> omega
        refine ev_gc (ty_setKeyWord (d := d - 1) (w := 24) hc (by decide) (by omega) ra q1) (fun _ S2 q2 => ?_)
        refine ev_gc (ty_close (d := d - 1) (i := o) hc (by omega) q2 ho) (fun _ S3 q3 => ?_)
        exact ev_ret q3
theorem addA_r {V : List ND} : inr (addA V) := by
  unfold addA
  split <;> constructor <;> omega
theorem or_25 {op : Nat} {c2 : Nat} {U : List ND} {ou : Bool} {v w o : Int} (hc : gT c) (hc2 : gT c2) (hne : c2 ≠ c) (hs : gSh s) (hop : op < 54) (hd : 7 ≤ d) (hu : TO c2 (U, ou) S0) (hin : v = -1 ∨ (0 ≤ v ∧ v < (U.length : Int) ∧ v + szI U v ≤ U.length)) (hp : SV S0 s p) (hp2 : ∀ x ∈ p, x < 256) (hw : inr w) (ho : inr o) : ∀ (m t : Nat) (S : GS) (W : TW), (sx op).length - t < m → t ≤ (sx op).length → TY c S0 W S → Ev (fun n => f_X5_add n d 25 S [((c : Nat) : Int), ((op : Nat) : Int), ((s : Nat) : Int), ((c2 : Nat) : Int), v, o, w, (t : Int)]) (fun _ S1 => TY c S0 (if v = -1 then clo (aSgs (stK (aNd (aSgs W w ((sx op).drop t)) 3) (addA (aSgs W w ((sx op).drop t)).1) (sx 23)) (addA (aSgs W w ((sx op).drop t)).1) p) o else clo (stK (apW (aSgs (stK (aNd (aSgs W w ((sx op).drop t)) 3) (addA (aSgs W w ((sx op).drop t)).1) (sx 23)) (addA (aSgs W w ((sx op).drop t)).1) p) U ou v) (apA (aSgs (stK (aNd (aSgs W w ((sx op).drop t)) 3) (addA (aSgs W w ((sx op).drop t)).1) (sx 23)) (addA (aSgs W w ((sx op).drop t)).1) p) U ou v) (sx 24)) o) S1) := by
  have el := sx_len op
  have xl := xlen_le2 op hop
  intro m
  induction m with
  | zero => intros; omega
  | succ m ih =>
    intro t S W h1 h2 h
    by_cases ht : t < (sx op).length
    · have rr := xch_rng op hop t (by omega)
      have ec : (sx op).getD t 0 = xch op t := sx_at (by omega)
      rw [drop_one ht, ec]
      have as := ty_addSign (d := d - 1) (i := w) (a := xch op t) hc h hw (by omega)
      refine ev_up (fun n => e_X5_add_25) ?_
      unfold b_X5_add_25
      repeat' (first
        | with_reducible refine ev_gv ?_
        | with_reducible refine ev_gg ?_ ?_
        | with_reducible refine ev_ite (fun _ => ?_) (fun _ => ?_)
        | omega
        | assumption)
      rw [Int.toNat_natCast]
      refine ev_gc as (fun _ S1 q1 => ?_)
      refine ev_gv ?_
      exact ih (t + 1) S1 _ (by omega) (by omega) q1
    · rw [List.drop_eq_nil_of_le (by omega)]
      have e0 : aSgs W w [] = W := rfl
      rw [e0]
      have ad := ty_add (d := d - 1) (k := 3) hc h (by decide)
      refine ev_up (fun n => e_X5_add_25) ?_
      unfold b_X5_add_25
      repeat' (first
        | with_reducible refine ev_gv ?_
        | with_reducible refine ev_gg ?_ ?_
        | with_reducible refine ev_ite (fun _ => ?_) (fun _ => ?_)
        | omega
        | assumption)
      refine ev_gc ad (fun x S1 q1 => ?_)
      obtain ⟨rfl, q1⟩ := q1
      refine ev_gc (ty_setKeyWord (d := d - 1) (w := 23) hc (by decide) (by omega) addA_r q1) (fun _ S2 q2 => ?_)
      exact or_70 (d := d) hc hc2 hne hs (by omega) hu hin hp hp2 addA_r ho (p.length + 1) 0 S2 _ (by omega) (by omega) q2
theorem or_add {op : Nat} {c2 : Nat} {U : List ND} {ou : Bool} {v : Int} (hc : gT c) (hc2 : gT c2) (hne : c2 ≠ c) (hs : gSh s) (hop : op < 54) (hd : 8 ≤ d) (hu : TO c2 (U, ou) S0) (hin : v = -1 ∨ (0 ≤ v ∧ v < (U.length : Int) ∧ v + szI U v ≤ U.length)) (hp : SV S0 s p) (hp2 : ∀ x ∈ p, x < 256) (h : TY c S0 W S) : Ev (fun n => f_X5_add n d 0 S [((c : Nat) : Int), ((op : Nat) : Int), ((s : Nat) : Int), ((c2 : Nat) : Int), v]) (fun _ S1 => TY c S0 (ordW W op p U ou v) S1) := by
  have lU := tv_l hu.1
  have lU' : U.length ≤ 100 := lU
  refine ev_up (fun n => e_X5_add_0) ?_
  unfold b_X5_add_0
  refine ev_gg (by omega) ?_
  refine ev_gg hc ?_
  refine ev_gc (ty_add (d := d - 1) (k := 5) hc h (by decide)) (fun x S1 q1 => ?_)
  obtain ⟨rfl, q1⟩ := q1
  refine ev_gc (ty_add (d := d - 1) (k := 3) hc q1 (by decide)) (fun x S2 q2 => ?_)
  obtain ⟨rfl, q2⟩ := q2
  refine ev_gc (ty_setKeyWord (d := d - 1) (w := 22) hc (by decide) (by omega) addA_r q2) (fun _ S3 q3 => ?_)
  exact or_25 (d := d) hc hc2 hne hs hop (by omega) hu hin hp hp2 addA_r addA_r ((sx op).length + 1) 0 S3 _ (by omega) (by omega) q3
end ORD
