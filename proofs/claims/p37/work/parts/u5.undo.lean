/-! p37: ORDERS, one behind the other, and all the way back -/
theorem gp_self {T : List ND} (h : SDC T) (c4 : 4 ≤ rk T) : T = gpN (T.getD 0 nd0) (kd T) (kd T).length := by
  rcases tr_cases h.1 with ⟨z, _, _⟩ | ⟨_, z⟩
  · omega
  · exact z
theorem row_q {T : List ND} (h : SDC T) (r4 : rk T = 4) : ∀ t ∈ kd T, rq t = [] := (h.2.2 1).2.1 r4
/-- an ORDER and its way back -/
theorem ed_bk {o o' : WRD} {T U : List ND} (hv : ∀ t ∈ o.2.2, TR t ∧ PZL t) (hT : SB 12 T) (hU : SB 12 U) (a : edR o T U) (b : unR o T o') : (∃ W, edR o' U W ∧ SB 12 W ∧ EK W T) ∧ ∀ t ∈ o'.2.2, TR t ∧ PZL t := by
  rcases b with ⟨e1, c, j, l, rfl⟩ | ⟨e1, c, j, l, rfl⟩ | ⟨e1, rfl⟩
  · rcases a with ⟨_, t, e2, a⟩ | ⟨z, _⟩ | ⟨z, _⟩
    · have ht := hv t (by rw [e2]; exact List.mem_cons_self)
      obtain ⟨c1, s1, s2, s3, s4⟩ := atR_sb (h := hRep t) (fun T U _ h => rep_tr ht h) o.2.1 T U c j hT hU a l
      have s3 : c1 = kyT t (rq c) := s3
      have q1 : rq c1 = rq c := by rw [s3]; rfl
      obtain ⟨W, x1, x2, x3⟩ := atR_back (h' := hRep c) (c2 := c) s2.1.1 q1 s1 rfl (by show c = kyT c (rq c1); rw [q1, ky_self (sb_len1 s1)]) o.2.1 T U hT hU s4
      refine ⟨⟨W, Or.inl ⟨rfl, c, rfl, x1⟩, x2, x3⟩, fun t ht => ?_⟩
      simp only [List.mem_cons, List.not_mem_nil, or_false] at ht
      rw [ht]
      exact s1.1.1
    · omega
    · omega
  · rcases a with ⟨z, _⟩ | ⟨_, e2, ws, w, e3, a⟩ | ⟨z, _⟩
    · omega
    · obtain ⟨p0, p1', j0, l0, h0, _⟩ := atR_at ws T U a
      obtain ⟨p1, s1, s2, s3, s4⟩ := atR_sb (h := hDel w) (fun T U hT h => ⟨(del_tr hT h).1, (del_tr hT h).2.1⟩) ws T U p0 j0 hT hU a l0
      obtain ⟨A, e, B, k, i, e1'⟩ := s3
      have l1 := ld_snoc ws T p0 j0 l0 k i
      rw [e3] at l
      obtain ⟨rfl, _⟩ := ld_one _ T e c _ _ hT.1 l1 l
      obtain ⟨he, ka, _⟩ := kd_ok s1.1.1 k
      have sk := sb_all s1 (isK_4 i)
      rw [k] at sk
      have tr2 := del_tr s1.1.1 ⟨A, c, B, k, i, e1'⟩
      have hE : ∀ u ∈ A ++ B, TR u ∧ PZL u := fun u hu => ka u (by rcases List.mem_append.mp hu with z | z; exact List.mem_append_left _ z; exact List.mem_append_right _ (List.mem_cons_of_mem _ z))
      have k1 : kd p1 = A ++ B := by rw [e1']; exact kd_gp hE
      have r1 : rk p1 = rk p0 := tr2.2.2
      have q1 : rq p1 = rq p0 := tr2.2.1
      have ep := gp_self s1.1 (isK_4 i)
      rw [k] at ep
      have hy : SB 12 (gpN (p0.getD 0 nd0) (A ++ c :: B) (A ++ c :: B).length) := by rw [← ep]; exact s1
      have fin : ∃ c2, hIns w c p1 c2 ∧ SB 12 c2 ∧ EK c2 p0 := by
        rcases i with ⟨r5, qw⟩ | ⟨r4, pw⟩
        · have nd := nod_ne (by have := sdc_nd s1.1 r5; rw [k] at this; exact this)
          have kw : kyT c w = c := by rw [← qw]; exact ky_self he.1.2.1
          obtain ⟨g1, g2⟩ := grp_ek (x := p1.getD 0 nd0) (y := p0.getD 0 nd0) (E := (A ++ B) ++ [c]) (F := A ++ c :: B) (sb_root s2) r1 q1 (fun u hu => sk u (by
            rcases List.mem_append.mp hu with z | z
            · rcases List.mem_append.mp z with y | y
              · exact List.mem_append_left _ y
              · exact List.mem_append_right _ (List.mem_cons_of_mem _ y)
            · simp only [List.mem_cons, List.not_mem_nil, or_false] at z
              rw [z]; exact List.mem_append_right _ List.mem_cons_self)) sk hy (Or.inl ⟨by show rk p1 = 5; omega, by
            refine List.Perm.map nm ?_
            rw [List.append_assoc]
            exact List.Perm.append_left A (List.perm_append_singleton c B)⟩)
          rw [← ep] at g2
          refine ⟨_, Or.inl ⟨by omega, by rw [← qw]; exact (rq_ok (sk c (List.mem_append_right _ List.mem_cons_self)).1).1, fun u hu => ?_, rfl⟩, ?_, ?_⟩
          · rw [k1] at hu
            rw [← qw]
            rcases List.mem_append.mp hu with z | z
            · exact nd.1 u z
            · exact nd.2 u z
          · rw [k1, kw]; exact g1
          · rw [k1, kw]; exact g2
        · have qc : rq c = [] := row_q s1.1 r4 c (by rw [k]; exact List.mem_append_right _ List.mem_cons_self)
          have kw : kyT c [] = c := by rw [← qc]; exact ky_self he.1.2.1
          obtain ⟨g1, g2⟩ := grp_ek (x := p1.getD 0 nd0) (y := p0.getD 0 nd0) (E := A ++ c :: B) (F := A ++ c :: B) (sb_root s2) r1 q1 sk sk hy (Or.inr ⟨by show rk p1 = 4; omega, rfl⟩)
          rw [← ep] at g2
          refine ⟨_, Or.inr ⟨by omega, A, B, k1, pw, rfl⟩, ?_, ?_⟩
          · rw [kw]; exact g1
          · rw [kw]; exact g2
      obtain ⟨c2, f1, f2, f3⟩ := fin
      obtain ⟨W, x1, x2, x3⟩ := atR_back (h' := hIns w c) tr2.1 q1 f2 f3 f1 ws T U hT hU s4
      refine ⟨⟨W, Or.inr (Or.inr ⟨rfl, c, ws, w, rfl, e3, x1⟩), x2, x3⟩, fun t ht => ?_⟩
      simp only [List.mem_cons, List.not_mem_nil, or_false] at ht
      rw [ht]
      exact he
    · omega
  · rcases a with ⟨z, _⟩ | ⟨z, _⟩ | ⟨_, t, ws, w, e2, e3, a⟩
    · omega
    · omega
    · have ht := hv t (by rw [e2]; exact List.mem_cons_self)
      obtain ⟨p0, p1', j0, l0, h0, _⟩ := atR_at ws T U a
      obtain ⟨p1, s1, s2, s3, s4⟩ := atR_sb (h := hIns w t) (fun T U hT h => ⟨(ins_tr hT ht h).1, (ins_tr hT ht h).2.1⟩) ws T U p0 j0 hT hU a l0
      have tr2 := ins_tr s1.1.1 ht s3
      have r1 : rk p1 = rk p0 := tr2.2.2
      have q1 : rq p1 = rq p0 := tr2.2.1
      have c4 : 4 ≤ rk p0 := by rcases s3 with z | z <;> omega
      have ep := gp_self s1.1 c4
      have hy : SB 12 (gpN (p0.getD 0 nd0) (kd p0) (kd p0).length) := by rw [← ep]; exact s1
      have sk := sb_all s1 c4
      have kt : ∀ q, TR (kyT t q) ∧ PZL (kyT t q) := fun q => ⟨tr_ky ht.1, pzl_ky ht.1.2.1 ht.2⟩
      have kT := kd_tr s1.1.1.1 s1.1.1.2
      obtain ⟨g1, g2⟩ := grp_ek (x := p1.getD 0 nd0) (y := p0.getD 0 nd0) (E := kd p0) (F := kd p0) (sb_root s2) r1 q1 sk sk hy (by
        rcases s3 with z | z
        · exact Or.inl ⟨by show rk p1 = 5; omega, List.Perm.refl _⟩
        · exact Or.inr ⟨by show rk p1 = 4; omega, rfl⟩)
      rw [← ep] at g2
      have fin : ∃ c2, hDel w p1 c2 ∧ SB 12 c2 ∧ EK c2 p0 := by
        rcases s3 with ⟨r5, wl, no, e⟩ | ⟨r4, A, B, k, pw, e⟩
        · have hE : ∀ u ∈ kd p0 ++ [kyT t w], TR u ∧ PZL u := fun u hu => by
            rcases List.mem_append.mp hu with z | z
            · exact kT u z
            · simp only [List.mem_cons, List.not_mem_nil, or_false] at z
              rw [z]; exact kt w
          have k1 : kd p1 = kd p0 ++ kyT t w :: [] := by rw [e]; exact kd_gp hE
          refine ⟨_, ⟨kd p0, kyT t w, [], k1, Or.inl ⟨by omega, rfl⟩, rfl⟩, ?_, ?_⟩
          · rw [List.append_nil]; exact g1
          · rw [List.append_nil]; exact g2
        · rw [k] at kT
          have hE : ∀ u ∈ A ++ kyT t [] :: B, TR u ∧ PZL u := fun u hu => by
            rcases List.mem_append.mp hu with z | z
            · exact kT u (List.mem_append_left _ z)
            · rcases List.mem_cons.mp z with z | z
              · rw [z]; exact kt []
              · exact kT u (List.mem_append_right _ z)
          have k1 : kd p1 = A ++ kyT t [] :: B := by rw [e]; exact kd_gp hE
          refine ⟨_, ⟨A, kyT t [], B, k1, Or.inr ⟨by omega, pw⟩, rfl⟩, ?_, ?_⟩
          · rw [← k]; exact g1
          · rw [← k]; exact g2
      obtain ⟨c2, f1, f2, f3⟩ := fin
      obtain ⟨W, x1, x2, x3⟩ := atR_back (h' := hDel w) tr2.1 q1 f2 f3 f1 ws T U hT hU s4
      exact ⟨⟨W, Or.inr (Or.inl ⟨rfl, rfl, ws, w, e3, x1⟩), x2, x3⟩, fun t ht => by cases ht⟩
theorem doc_sb {T : List ND} (h : DOC T) : SB 12 T := ⟨h.1, h.2.2.1, h.2.1⟩
theorem sb_doc {T : List ND} (h : SB 12 T) (hq : rq T = []) : DOC T := ⟨h.1, h.2.2, h.2.1, hq⟩
/-- ORDERS are laid, one behind the other -/
def lyT : List ORD → List ND → List ND → Prop
  | [], T, U => U = T
  | o :: X, T, U => ∃ T1, (isP o.2.1 ∧ ∀ t ∈ o.2.2, TR t ∧ PZL t) ∧ edR (o.1, wds o.2.1, o.2.2) T T1 ∧ DOC T1 ∧ lyT X T1 U
theorem lyT_app : ∀ (X Y : List ORD) (T U W : List ND), lyT X T U → lyT Y U W → lyT (X ++ Y) T W
  | [], Y, T, U, W, h, g => by
    have h : U = T := h
    rw [h] at g
    exact g
  | o :: X, Y, T, U, W, h, g => by
    obtain ⟨T1, h1, h2, h3, h4⟩ := h
    exact ⟨T1, h1, h2, h3, lyT_app X Y T1 U W h4 g⟩
theorem lyT_doc : ∀ (X : List ORD) (T U : List ND), DOC T → lyT X T U → DOC U
  | [], T, U, hT, h => by
    have h : U = T := h
    rw [h]; exact hT
  | o :: X, T, U, hT, h => by
    obtain ⟨T1, h1, h2, h3, h4⟩ := h
    exact lyT_doc X T1 U h3 h4
theorem la_lay {U : List ND} (hU : TR U ∧ PZL U) : ∀ (X : List ORD) (K : List Nat) (n : Nat) (V W : List ND), DOC V → (∀ k ∈ K, k < U.length) → K.map (sg U) = pcO X → lyT X V W → laF U K n V = .inr W
  | [], K, n, V, W, hV, hK, e, h => by
    have hK0 : K = [] := by
      cases K with
      | nil => rfl
      | cons k K => exact absurd e (by simp [pcO])
    have h : W = V := h
    rw [hK0, h]
    rfl
  | o :: X, [], n, V, W, hV, hK, e, h => absurd e (by simp [pcO])
  | o :: X, k :: K, n, V, W, hV, hK, e, h => by
    obtain ⟨T1, ⟨h1, h1'⟩, h2, h3, h4⟩ := h
    have e : sg U k :: K.map (sg U) = ordP o.1 o.2.1 o.2.2 :: pcO X := e
    obtain ⟨e1, e2⟩ := List.cons.inj e
    have lo := lo_ed hU hV (hK k List.mem_cons_self) h1' e1 h1 rfl h2 (doc_ok h3)
    rw [laF_c, lo]
    exact la_lay hU X K (n + 1) T1 W h3 (fun x hx => hK x (List.mem_cons_of_mem _ hx)) e2 h4
/-- the class's ORDER turned round -/
theorem un_one {U V W : List ND} {c op : Nat} {p : List Int} {v : List (List ND)} (hU : TR U ∧ PZL U) (hV : DOC V) (hc : c < U.length) (hv : ∀ t ∈ v, TR t ∧ PZL t) (hs : sg U c = ordP op p v) (h : edR (op, wds p, v) V W) : ∃ op' v', unL U c V = [(op', p, v')] ∧ unR (op, wds p, v) V (op', wds p, v') := by
  obtain ⟨n5, ⟨o1, o2⟩, ⟨w1, w2⟩, v0, v1⟩ := ord_at hU hc hv hs
  have n25 : sx 26 ≠ sx 25 := by decide +kernel
  have n28 : sx 26 ≠ sx 28 := by decide +kernel
  have m25 : sx 21 ≠ sx 25 := by decide +kernel
  have m28 : sx 21 ≠ sx 28 := by decide +kernel
  have m29 : sx 21 ≠ sx 29 := by decide +kernel
  have m26 : sx 21 ≠ sx 26 := by decide +kernel
  have s0 : sg V 0 = V := sg_self hV.1.1.1
  have nd : ∀ c0 j, ldP (wds p) V c0 j → sg V (ldT p V (nW p)).toNat = c0 := fun c0 j l => by
    have n := nw_ld hV.1 (wds p) 0 c0 j hV.1.1.1.2.1 (by rw [s0]; exact l)
    rw [Nat.zero_add] at n
    rw [ldT_nw, show nwF V (wds p) 0 = (j : Int) from n.1, Int.toNat_natCast]
    exact n.2.2
  unfold unL
  rw [o2, w2]
  rcases h with ⟨e1, t, e2, a⟩ | ⟨e1, e2, ws, w, e3, a⟩ | ⟨e1, t, ws, w, e2, e3, a⟩
  · have e1 : op = 21 := e1
    subst e1
    obtain ⟨c0, c1, j, l, _, _⟩ := atR_at _ V W a
    rw [if_neg m25, if_neg m28, if_neg (fun z => z.elim m29 m26), if_pos rfl, nd c0 j l]
    exact ⟨21, [c0], rfl, Or.inl ⟨rfl, c0, j, l, rfl⟩⟩
  · have e1 : op = 25 := e1
    subst e1
    obtain ⟨p0, p1, j, l, ⟨A, e, B, k, i, _⟩, _⟩ := atR_at _ V W a
    have l1 := ld_snoc ws V p0 j l k i
    have e3 : wds p = ws ++ [w] := e3
    rw [← e3] at l1
    rw [if_pos rfl, nd e _ l1]
    exact ⟨26, [e], rfl, Or.inr (Or.inl ⟨rfl, e, _, l1, rfl⟩)⟩
  · have e1 : op = 26 := e1
    subst e1
    rw [if_neg n25, if_neg n28, if_pos (Or.inr rfl)]
    have e3 : wds p = ws ++ [w] := e3
    obtain ⟨c0, c1, o, h1, h2, h3, h4, h5, h6⟩ := upd_is hV.1 a
    have hz := pz_l hV.1.1.2
    have rn : rk c0 = nk V o := by rw [← h4]; exact rk_sg h3 (hz o)
    have kc : kd c0 = (kids V o).map (sg V) := by rw [← h4]; exact kd_sg hV.1.1.2 hV.1.1.1.1 h3
    have lk : (kd c0).length = (kids V o).length := by rw [kc, List.length_map]
    obtain ⟨n1, n2, n3⟩ := ldT_up (V := V) e3
    have nw : nW p ≠ 0 := by omega
    have goal : ∃ z, aimS p V = some z ∧ z.1 = false ∧ ¬ (nk V z.2.1 = 4 ∧ p.drop (stA p ((nW p : Int) - 1)).toNat = [45]) := by
      rcases h2 with ⟨r5, wl, no, _⟩ | ⟨r4, A, B, k1, pw, _⟩
      · have vl : vLk V (o : Int) w = -1 := by
          rw [vLk_n h3, if_pos (by omega)]
          refine fdK_miss _ (fun x hx => ?_)
          rw [← rq_sg (kids_in hV.1.1.1.1 hz h3 hx) (hz x)]
          exact no _ (by rw [kc]; exact List.mem_map_of_mem hx)
        refine ⟨(false, o, o + nz V o, (kids V o).length), ?_, rfl, fun z => ?_⟩
        · unfold aimS
          rw [if_neg nw, n3, n2, h5, if_pos (by rw [kdI_n h3]; omega), vl, if_pos rfl, if_pos wl, Int.toNat_natCast]
        · have z1 : nk V o = 4 := z.1
          omega
      · have lA : A.length ≤ (kids V o).length := by rw [← lk, k1, List.length_append]; omega
        have w45 : w ≠ [45] := fun z => by
          rw [z] at pw
          have : plN [45] = -1 := by decide
          omega
        have er : pRow p V o = (A.length : Int) := by
          unfold pRow
          rw [n2, if_neg (by rw [sx_20]; exact w45), pw]
        obtain ⟨x, ea⟩ : ∃ x, aimS p V = some (false, o, x, A.length) := by
          unfold aimS
          rw [if_neg nw, n3, n2, h5, if_neg (by rw [kdI_n h3]; omega), if_pos (by rw [kdI_n h3]; omega), Int.toNat_natCast, er, if_pos (by omega), Int.toNat_natCast]
          exact ⟨_, rfl⟩
        refine ⟨_, ea, rfl, fun z => w45 ?_⟩
        rw [← n2, wdA_last (by omega), z.2]
        rfl
    obtain ⟨z, z1, z2, z3⟩ := goal
    unfold puL
    rw [z1]
    dsimp only
    rw [if_neg (by rw [z2]; decide), apT_is hV.1.1 z1 z2, if_neg z3]
    exact ⟨25, [], rfl, Or.inr (Or.inr ⟨rfl, rfl⟩)⟩
theorem un_lay {U : List ND} (hU : TR U ∧ PZL U) : ∀ (X : List ORD) (K : List Nat) (V W : List ND), DOC V → (∀ k ∈ K, k < U.length) → K.map (sg U) = pcO X → lyT X V W → (unF U K V).length = X.length ∧ ∀ W', DOC W' → EK W' W → ∃ V', lyT (unF U K V) W' V' ∧ DOC V' ∧ EK V' V
  | [], K, V, W, hV, hK, e, h => by
    have hK0 : K = [] := by
      cases K with
      | nil => rfl
      | cons k K => exact absurd e (by simp [pcO])
    have h : W = V := h
    subst hK0 h
    exact ⟨rfl, fun W' d1 d2 => ⟨W', rfl, d1, d2⟩⟩
  | o :: X, [], V, W, hV, hK, e, h => absurd e (by simp [pcO])
  | o :: X, k :: K, V, W, hV, hK, e, h => by
    obtain ⟨T1, ⟨h1, h1'⟩, h2, h3, h4⟩ := h
    have e : sg U k :: K.map (sg U) = ordP o.1 o.2.1 o.2.2 :: pcO X := e
    obtain ⟨e1, e2⟩ := List.cons.inj e
    have lo := lo_ed hU hV (hK k List.mem_cons_self) h1' e1 h1 rfl h2 (doc_ok h3)
    obtain ⟨op', v', u1, u2⟩ := un_one hU hV (hK k List.mem_cons_self) h1' e1 h2
    obtain ⟨i1, i2⟩ := un_lay hU X K T1 W h3 (fun x hx => hK x (List.mem_cons_of_mem _ hx)) e2 h4
    have eu : unF U (k :: K) V = unF U K T1 ++ unL U k V := by
      show (match loS U k V with | none => [] | some T => unF U K T ++ unL U k V) = _
      rw [lo]
    rw [eu, u1]
    refine ⟨by rw [List.length_append, i1]; rfl, fun W' d1 d2 => ?_⟩
    obtain ⟨Y, y1, y2, y3⟩ := i2 W' d1 d2
    obtain ⟨⟨Z, z1, z2, z3⟩, z4⟩ := ed_bk h1' (doc_sb hV) (doc_sb h3) h2 u2
    obtain ⟨V', v1, v2, v3⟩ := ed_cong (o := (op', wds o.2.1, v')) z4 (doc_sb h3) z2 (doc_sb y2) y3 z1
    have hq : rq V' = [] := by rw [ek_rq v3, ek_rq z3]; exact hV.2.2.2
    have dV := sb_doc v2 hq
    exact ⟨V', lyT_app _ [(op', o.2.1, v')] W' Y V' y1 ⟨V', ⟨h1, z4⟩, v1, dV, rfl⟩, dV, v3.trans z3⟩
