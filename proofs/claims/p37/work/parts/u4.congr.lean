/-! p37: an ORDER on EQUAL ones; an ORDER and its way back -/
theorem rk_gpN {x : ND} {E : List (List ND)} {m : Nat} : rk (gpN x E m) = x.1 := rfl
theorem rq_gpN {x : ND} {E : List (List ND)} {m : Nat} : rq (gpN x E m) = x.2.2.2.2 := rfl
theorem del_tr {w : List Int} {T U : List ND} (hT : TR T ∧ PZL T) (h : hDel w T U) : (TR U ∧ PZL U) ∧ rq U = rq T ∧ rk U = rk T := by
  obtain ⟨A, e, B, k, i, rfl⟩ := h
  obtain ⟨_, a, _⟩ := kd_ok hT k
  have c4 : 4 ≤ (T.getD 0 nd0).1 := by
    have : rk T = (T.getD 0 nd0).1 := rfl
    rcases i with z | z <;> omega
  have hE : ∀ t ∈ A ++ B, TR t ∧ PZL t := fun t ht => a t (by rcases List.mem_append.mp ht with z | z; exact List.mem_append_left _ z; exact List.mem_append_right _ (List.mem_cons_of_mem _ z))
  exact ⟨⟨tr_gp c4 (fun t ht => (hE t ht).1), pzl_gp (fun t ht => (hE t ht).2)⟩, rfl, rfl⟩
theorem ins_tr {w : List Int} {t T U : List ND} (hT : TR T ∧ PZL T) (ht : TR t ∧ PZL t) (h : hIns w t T U) : (TR U ∧ PZL U) ∧ rq U = rq T ∧ rk U = rk T := by
  have kt : ∀ q, TR (kyT t q) ∧ PZL (kyT t q) := fun q => ⟨tr_ky ht.1, pzl_ky ht.1.2.1 ht.2⟩
  have kT := kd_tr hT.1 hT.2
  have e0 : rk T = (T.getD 0 nd0).1 := rfl
  rcases h with ⟨r5, _, _, rfl⟩ | ⟨r4, A, B, k, _, rfl⟩
  · have hE : ∀ u ∈ kd T ++ [kyT t w], TR u ∧ PZL u := fun u hu => by
      rcases List.mem_append.mp hu with z | z
      · exact kT u z
      · simp only [List.mem_cons, List.not_mem_nil, or_false] at z
        rw [z]; exact kt w
    exact ⟨⟨tr_gp (by omega) (fun t ht => (hE t ht).1), pzl_gp (fun t ht => (hE t ht).2)⟩, rfl, rfl⟩
  · rw [k] at kT
    have hE : ∀ u ∈ A ++ kyT t [] :: B, TR u ∧ PZL u := fun u hu => by
      rcases List.mem_append.mp hu with z | z
      · exact kT u (List.mem_append_left _ z)
      · rcases List.mem_cons.mp z with z | z
        · rw [z]; exact kt []
        · exact kT u (List.mem_append_right _ z)
    exact ⟨⟨tr_gp (by omega) (fun t ht => (hE t ht).1), pzl_gp (fun t ht => (hE t ht).2)⟩, rfl, rfl⟩
theorem rep_tr {t T U : List ND} (ht : TR t ∧ PZL t) (h : hRep t T U) : (TR U ∧ PZL U) ∧ rq U = rq T := by
  have h : U = kyT t (rq T) := h
  subst h
  exact ⟨⟨tr_ky ht.1, pzl_ky ht.1.2.1 ht.2⟩, rfl⟩
/-- what a change by WORDS keeps -/
theorem atR_tr {h : List ND → List ND → Prop} (hh : ∀ T U, TR T ∧ PZL T → h T U → (TR U ∧ PZL U) ∧ rq U = rq T) : ∀ (ws : List (List Int)) (T U : List ND), TR T ∧ PZL T → atR h ws T U → (TR U ∧ PZL U) ∧ rq U = rq T
  | [], T, U, hT, a => hh T U hT a
  | w :: ws, T, U, hT, a => by
    obtain ⟨A, e, e1, B, k, i, a1, rfl⟩ := a
    obtain ⟨he, ka, _⟩ := kd_ok hT k
    have t1 := (atR_tr hh ws e e1 he a1).1
    have c4 : 4 ≤ (T.getD 0 nd0).1 := by
      have : rk T = (T.getD 0 nd0).1 := rfl
      rcases i with z | z <;> omega
    have hE : ∀ u ∈ A ++ e1 :: B, TR u ∧ PZL u := fun u hu => by
      rcases List.mem_append.mp hu with z | z
      · exact ka u (List.mem_append_left _ z)
      · rcases List.mem_cons.mp z with z | z
        · rw [z]; exact t1
        · exact ka u (List.mem_append_right _ (List.mem_cons_of_mem _ z))
    exact ⟨⟨tr_gp c4 (fun t ht => (hE t ht).1), pzl_gp (fun t ht => (hE t ht).2)⟩, rfl⟩
theorem isK_4 {T : List ND} {A : List (List ND)} {e : List ND} {w : List Int} (i : isK T A e w) : 4 ≤ rk T := by rcases i with z | z <;> omega
/-- EQUAL groups have EQUAL VALUES -/
theorem ek_split {T X : List ND} {A B : List (List ND)} {e : List ND} {w : List Int} (hT : SB 12 T) (hX : SB 12 X) (h : EK X T) (k : kd T = A ++ e :: B) (i : isK T A e w) : ∃ A' x B', kd X = A' ++ x :: B' ∧ isK X A' x w ∧ EK x e ∧ ((rk X = 5 ∧ ((A' ++ B').map nm).Perm ((A ++ B).map nm)) ∨ (rk X = 4 ∧ A'.map nm = A.map nm ∧ B'.map nm = B.map nm)) := by
  have hk := ek_rk h
  rcases i with ⟨r5, hq⟩ | ⟨r4, hp⟩
  · obtain ⟨_, _, p⟩ := (ek_map hX hT (by omega)).mp h
    rw [k] at p
    have m : nm e ∈ (kd X).map nm := p.mem_iff.mpr (List.mem_map_of_mem (List.mem_append_right _ List.mem_cons_self))
    obtain ⟨x, hx, ex⟩ := List.mem_map.mp m
    obtain ⟨A', B', kx⟩ := List.append_of_mem hx
    have ex : EK x e := ex
    refine ⟨A', x, B', kx, Or.inl ⟨by omega, (ek_rq ex).trans hq⟩, ex, Or.inl ⟨by omega, ?_⟩⟩
    rw [kx] at p
    have p1 : (x :: (A' ++ B')).map nm |>.Perm ((e :: (A ++ B)).map nm) := ((List.perm_middle.map nm).symm.trans p).trans (List.perm_middle.map nm)
    rw [List.map_cons, List.map_cons] at p1
    have ex2 : nm x = nm e := ex
    rw [ex2] at p1
    exact p1.cons_inv
  · obtain ⟨_, _, p⟩ := (ek_row hX hT (by omega)).mp h
    rw [k, List.map_append, List.map_cons] at p
    obtain ⟨A', L, e1, e2, e3⟩ := List.map_eq_append_iff.mp p
    obtain ⟨x, B', e4, e5, e6⟩ := List.map_eq_cons_iff.mp e3
    subst e4
    have lA : A'.length = A.length := by rw [← List.length_map (f := nm) (as := A'), e2, List.length_map]
    exact ⟨A', x, B', e1, Or.inr ⟨by omega, by rw [hp, lA]⟩, e5, Or.inr ⟨by omega, e2, e6⟩⟩
theorem sb_root {m : Int} {T : List ND} (h : SB m T) : NR (T.getD 0 nd0) ∧ VN (T.getD 0 nd0) := root_nr h.1
theorem sb_all {T : List ND} (h : SB 12 T) (c4 : 4 ≤ rk T) : ∀ t ∈ kd T, SB 11 t := fun t ht => sb_kd h c4 ht
theorem kd_gpT {x : ND} {E : List (List ND)} (h : TR (gpN x E E.length) ∧ PZL (gpN x E E.length)) (hE : ∀ t ∈ E, TR t ∧ PZL t) : kd (gpN x E E.length) = E := kd_gp hE
/-- a change by WORDS on EQUAL ones -/
theorem atR_cong {h : List ND → List ND → Prop} (hh : ∀ T U, TR T ∧ PZL T → h T U → (TR U ∧ PZL U) ∧ rq U = rq T) (base : ∀ T U X, SB 12 T → SB 12 U → SB 12 X → EK X T → h T U → ∃ W, h X W ∧ SB 12 W ∧ EK W U) : ∀ (ws : List (List Int)) (T U X : List ND), SB 12 T → SB 12 U → SB 12 X → EK X T → atR h ws T U → ∃ W, atR h ws X W ∧ SB 12 W ∧ EK W U
  | [], T, U, X, hT, hU, hX, e, a => base T U X hT hU hX e a
  | w :: ws, T, U, X, hT, hU, hX, e, a => by
    obtain ⟨A, c, c1, B, k, i, a1, rfl⟩ := a
    obtain ⟨hc, ka, _⟩ := kd_ok hT.1.1 k
    obtain ⟨t1, q1⟩ := atR_tr hh ws c c1 hc a1
    have c4 := isK_4 i
    have hE : ∀ u ∈ A ++ c1 :: B, TR u ∧ PZL u := fun u hu => by
      rcases List.mem_append.mp hu with z | z
      · exact ka u (List.mem_append_left _ z)
      · rcases List.mem_cons.mp z with z | z
        · rw [z]; exact t1
        · exact ka u (List.mem_append_right _ (List.mem_cons_of_mem _ z))
    have kU : kd (gpN (T.getD 0 nd0) (A ++ c1 :: B) (A ++ c1 :: B).length) = A ++ c1 :: B := kd_gp hE
    have sU := sb_all hU c4
    rw [kU] at sU
    have sT := sb_all hT c4
    rw [k] at sT
    obtain ⟨A', x, B', kx, ix, ex, alt⟩ := ek_split hT hX e k i
    have sX := sb_all hX (isK_4 ix)
    rw [kx] at sX
    have mid : ∀ {α : Type} (P : List ND → Prop) (L M : List (List ND)) (z : List ND), (∀ t ∈ L ++ z :: M, P t) → P z ∧ (∀ t ∈ L, P t) ∧ ∀ t ∈ M, P t := fun P L M z hz => ⟨hz z (List.mem_append_right _ List.mem_cons_self), fun t ht => hz t (List.mem_append_left _ ht), fun t ht => hz t (List.mem_append_right _ (List.mem_cons_of_mem _ ht))⟩
    have mc := mid (α := Nat) _ A B c sT
    have m1 := mid (α := Nat) _ A B c1 sU
    have mx := mid (α := Nat) _ A' B' x sX
    obtain ⟨x1, y1, y2, y3⟩ := atR_cong hh base ws c c1 x (sb_up mc.1 (by decide)) (sb_up m1.1 (by decide)) (sb_up mx.1 (by decide)) ex a1
    have x11 : SB 11 x1 := ⟨y2.1, y2.2.1, ek_dp (sb_up m1.1 (by decide)) y2 y3.symm m1.1.2.2⟩
    have e0 := ek_rk e
    have e1 := ek_rq e
    obtain ⟨g1, g2⟩ := grp_ek (x := X.getD 0 nd0) (y := T.getD 0 nd0) (E := A' ++ x1 :: B') (F := A ++ c1 :: B) (sb_root hX) e0 e1 (fun t ht => by
      rcases List.mem_append.mp ht with z | z
      · exact mx.2.1 t z
      · rcases List.mem_cons.mp z with z | z
        · rw [z]; exact x11
        · exact mx.2.2 t z) sU hU (by
      have y3 : nm x1 = nm c1 := y3
      rcases alt with ⟨r5, p⟩ | ⟨r4, p1, p2⟩
      · refine Or.inl ⟨r5, ?_⟩
        refine ((List.perm_middle.map nm).trans ?_).trans (List.perm_middle.map nm).symm
        rw [List.map_cons, List.map_cons, y3]
        exact p.cons _
      · refine Or.inr ⟨r4, ?_⟩
        rw [List.map_append, List.map_cons, List.map_append, List.map_cons, p1, p2, y3])
    exact ⟨_, ⟨A', x, x1, B', kx, ix, y1, rfl⟩, g1, g2⟩
theorem rep_cong {t : List ND} : ∀ T U X, SB 12 T → SB 12 U → SB 12 X → EK X T → hRep t T U → ∃ W, hRep t X W ∧ SB 12 W ∧ EK W U := fun T U X hT hU hX e a => by
  have a : U = kyT t (rq T) := a
  exact ⟨U, by show U = kyT t (rq X); rw [a, ek_rq e], hU, rfl⟩
theorem del_cong {w : List Int} : ∀ T U X, SB 12 T → SB 12 U → SB 12 X → EK X T → hDel w T U → ∃ W, hDel w X W ∧ SB 12 W ∧ EK W U := fun T U X hT hU hX e a => by
  obtain ⟨A, c, B, k, i, rfl⟩ := a
  obtain ⟨A', x, B', kx, ix, ex, alt⟩ := ek_split hT hX e k i
  have sX := sb_all hX (isK_4 ix)
  rw [kx] at sX
  have sT := sb_all hT (isK_4 i)
  rw [k] at sT
  have drp : ∀ (P : List ND → Prop) (L M : List (List ND)) (z : List ND), (∀ t ∈ L ++ z :: M, P t) → ∀ t ∈ L ++ M, P t := fun P L M z hz t ht => hz t (by rcases List.mem_append.mp ht with y | y; exact List.mem_append_left _ y; exact List.mem_append_right _ (List.mem_cons_of_mem _ y))
  obtain ⟨g1, g2⟩ := grp_ek (x := X.getD 0 nd0) (y := T.getD 0 nd0) (E := A' ++ B') (F := A ++ B) (sb_root hX) (ek_rk e) (ek_rq e) (drp _ _ _ _ sX) (drp _ _ _ _ sT) hU (by
    rcases alt with ⟨r5, p⟩ | ⟨r4, p1, p2⟩
    · exact Or.inl ⟨r5, p⟩
    · exact Or.inr ⟨r4, by rw [List.map_append, List.map_append, p1, p2]⟩)
  exact ⟨_, ⟨A', x, B', kx, ix, rfl⟩, g1, g2⟩
theorem ins_cong {w : List Int} {t : List ND} (ht : TR t ∧ PZL t) : ∀ T U X, SB 12 T → SB 12 U → SB 12 X → EK X T → hIns w t T U → ∃ W, hIns w t X W ∧ SB 12 W ∧ EK W U := fun T U X hT hU hX e a => by
  have kt : ∀ q, TR (kyT t q) ∧ PZL (kyT t q) := fun q => ⟨tr_ky ht.1, pzl_ky ht.1.2.1 ht.2⟩
  have kT := kd_tr hT.1.1.1 hT.1.1.2
  have hk := ek_rk e
  rcases a with ⟨r5, wl, no, rfl⟩ | ⟨r4, A, B, k, pw, rfl⟩
  · have hE : ∀ u ∈ kd T ++ [kyT t w], TR u ∧ PZL u := fun u hu => by
      rcases List.mem_append.mp hu with z | z
      · exact kT u z
      · simp only [List.mem_cons, List.not_mem_nil, or_false] at z
        rw [z]; exact kt w
    have sU := sb_all hU (by rw [rk_gpN]; show 4 ≤ rk T; omega)
    rw [kd_gp hE] at sU
    have sX := sb_all hX (by omega)
    obtain ⟨_, _, p⟩ := (ek_map hX hT (by omega)).mp e
    have pq := p.map rq
    rw [map_rq_nm, map_rq_nm] at pq
    obtain ⟨g1, g2⟩ := grp_ek (x := X.getD 0 nd0) (y := T.getD 0 nd0) (E := kd X ++ [kyT t w]) (F := kd T ++ [kyT t w]) (sb_root hX) hk (ek_rq e) (fun u hu => by
      rcases List.mem_append.mp hu with z | z
      · exact sX u z
      · exact sU u (List.mem_append_right _ z)) sU hU (Or.inl ⟨by show rk X = 5; omega, by rw [List.map_append, List.map_append]; exact p.append_right _⟩)
    refine ⟨_, Or.inl ⟨by omega, wl, fun u hu z => ?_, rfl⟩, g1, g2⟩
    obtain ⟨v, hv, ev⟩ := List.mem_map.mp (pq.mem_iff.mp (List.mem_map_of_mem hu))
    exact no v hv (ev.trans z)
  · rw [k] at kT
    have hE : ∀ u ∈ A ++ kyT t [] :: B, TR u ∧ PZL u := fun u hu => by
      rcases List.mem_append.mp hu with z | z
      · exact kT u (List.mem_append_left _ z)
      · rcases List.mem_cons.mp z with z | z
        · rw [z]; exact kt []
        · exact kT u (List.mem_append_right _ z)
    have sU := sb_all hU (by rw [rk_gpN]; show 4 ≤ rk T; omega)
    rw [kd_gp hE] at sU
    obtain ⟨_, _, p⟩ := (ek_row hX hT (by omega)).mp e
    rw [k, List.map_append] at p
    obtain ⟨A', B', kx, e2, e3⟩ := List.map_eq_append_iff.mp p
    have sX := sb_all hX (by omega)
    rw [kx] at sX
    have lA : A'.length = A.length := by rw [← List.length_map (f := nm) (as := A'), e2, List.length_map]
    obtain ⟨g1, g2⟩ := grp_ek (x := X.getD 0 nd0) (y := T.getD 0 nd0) (E := A' ++ kyT t [] :: B') (F := A ++ kyT t [] :: B) (sb_root hX) hk (ek_rq e) (fun u hu => by
      rcases List.mem_append.mp hu with z | z
      · exact sX u (List.mem_append_left _ z)
      · rcases List.mem_cons.mp z with z | z
        · rw [z]; exact sU _ (List.mem_append_right _ List.mem_cons_self)
        · exact sX u (List.mem_append_right _ z)) sU hU (Or.inr ⟨by show rk X = 4; omega, by rw [List.map_append, List.map_cons, List.map_append, List.map_cons, e2, e3]⟩)
    exact ⟨_, Or.inr ⟨by omega, A', B', kx, by rw [pw, lA], rfl⟩, g1, g2⟩
/-- an ORDER on EQUAL ones -/
theorem ed_cong {o : WRD} (hv : ∀ t ∈ o.2.2, TR t ∧ PZL t) {T U X : List ND} (hT : SB 12 T) (hU : SB 12 U) (hX : SB 12 X) (e : EK X T) (a : edR o T U) : ∃ W, edR o X W ∧ SB 12 W ∧ EK W U := by
  rcases a with ⟨e1, t, e2, a⟩ | ⟨e1, e2, ws, w, e3, a⟩ | ⟨e1, t, ws, w, e2, e3, a⟩
  · have ht := hv t (by rw [e2]; exact List.mem_cons_self)
    obtain ⟨W, x1, x2, x3⟩ := atR_cong (h := hRep t) (fun T U _ h => rep_tr ht h) rep_cong o.2.1 T U X hT hU hX e a
    exact ⟨W, Or.inl ⟨e1, t, e2, x1⟩, x2, x3⟩
  · obtain ⟨W, x1, x2, x3⟩ := atR_cong (h := hDel w) (fun T U hT h => ⟨(del_tr hT h).1, (del_tr hT h).2.1⟩) del_cong ws T U X hT hU hX e a
    exact ⟨W, Or.inr (Or.inl ⟨e1, e2, ws, w, e3, x1⟩), x2, x3⟩
  · have ht := hv t (by rw [e2]; exact List.mem_cons_self)
    obtain ⟨W, x1, x2, x3⟩ := atR_cong (h := hIns w t) (fun T U hT h => ⟨(ins_tr hT ht h).1, (ins_tr hT ht h).2.1⟩) (ins_cong ht) ws T U X hT hU hX e a
    exact ⟨W, Or.inr (Or.inr ⟨e1, t, ws, w, e2, e3, x1⟩), x2, x3⟩
/-- what was changed comes back -/
theorem atR_back {h' : List ND → List ND → Prop} {c c1 c2 : List ND} (hc : TR c1 ∧ PZL c1) (hq : rq c1 = rq c) (s1 : SB 12 c2) (e1 : EK c2 c) (b : h' c1 c2) : ∀ (ws : List (List Int)) (T U : List ND), SB 12 T → SB 12 U → atR (fun x y => x = c ∧ y = c1) ws T U → ∃ W, atR h' ws U W ∧ SB 12 W ∧ EK W T
  | [], T, U, hT, hU, a => by
    obtain ⟨rfl, rfl⟩ := a
    exact ⟨c2, b, s1, e1⟩
  | w :: ws, T, U, hT, hU, a => by
    obtain ⟨A, d, d1, B, k, i, a1, rfl⟩ := a
    have sT := sb_all hT (isK_4 i)
    rw [k] at sT
    have sd : SB 11 d := sT d (List.mem_append_right _ List.mem_cons_self)
    obtain ⟨hd, ka, _⟩ := kd_ok hT.1.1 k
    obtain ⟨t1, q1⟩ := atR_tr (h := fun x y => x = c ∧ y = c1) (fun T U _ z => by rw [z.1, z.2]; exact ⟨hc, hq⟩) ws d d1 hd a1
    have hE : ∀ u ∈ A ++ d1 :: B, TR u ∧ PZL u := fun u hu => by
      rcases List.mem_append.mp hu with z | z
      · exact ka u (List.mem_append_left _ z)
      · rcases List.mem_cons.mp z with z | z
        · rw [z]; exact t1
        · exact ka u (List.mem_append_right _ (List.mem_cons_of_mem _ z))
    have kU : kd (gpN (T.getD 0 nd0) (A ++ d1 :: B) (A ++ d1 :: B).length) = A ++ d1 :: B := kd_gp hE
    have sU := sb_all hU (isK_4 i)
    rw [kU] at sU
    have sd1 : SB 11 d1 := sU d1 (List.mem_append_right _ List.mem_cons_self)
    obtain ⟨W, x1, x2, x3⟩ := atR_back hc hq s1 e1 b ws d d1 (sb_up sd (by decide)) (sb_up sd1 (by decide)) a1
    have W11 : SB 11 W := ⟨x2.1, x2.2.1, ek_dp (sb_up sd (by decide)) x2 x3.symm sd.2.2⟩
    have eT : T = gpN (T.getD 0 nd0) (A ++ d :: B) (A ++ d :: B).length := by
      rcases tr_cases hT.1.1 with ⟨z, _, _⟩ | ⟨_, z⟩
      · have := isK_4 i; omega
      · rw [k] at z; exact z
    have hy : SB 12 (gpN (T.getD 0 nd0) (A ++ d :: B) (A ++ d :: B).length) := by rw [← eT]; exact hT
    have x3 : nm W = nm d := x3
    obtain ⟨g1, g2⟩ := grp_ek (x := (gpN (T.getD 0 nd0) (A ++ d1 :: B) (A ++ d1 :: B).length).getD 0 nd0) (y := T.getD 0 nd0) (E := A ++ W :: B) (F := A ++ d :: B) (sb_root hU) rfl rfl (fun u hu => by
      rcases List.mem_append.mp hu with z | z
      · exact sT u (List.mem_append_left _ z)
      · rcases List.mem_cons.mp z with z | z
        · rw [z]; exact W11
        · exact sT u (List.mem_append_right _ (List.mem_cons_of_mem _ z))) sT hy (by
      have e : (A ++ W :: B).map nm = (A ++ d :: B).map nm := by rw [List.map_append, List.map_cons, List.map_append, List.map_cons, x3]
      rcases i with ⟨r5, _⟩ | ⟨r4, _⟩
      · exact Or.inl ⟨r5, by rw [e]⟩
      · exact Or.inr ⟨r4, e⟩)
    rw [← eT] at g2
    refine ⟨_, ⟨A, d1, W, B, kU, ?_, x1, rfl⟩, g1, g2⟩
    rcases i with ⟨r5, q5⟩ | ⟨r4, p4⟩
    · exact Or.inl ⟨r5, q1.trans q5⟩
    · exact Or.inr ⟨r4, p4⟩

/-- an ORDER turned round -/
def unR (o : WRD) (T : List ND) (o' : WRD) : Prop := (o.1 = 21 ∧ ∃ c j, ldP o.2.1 T c j ∧ o' = (21, o.2.1, [c])) ∨ (o.1 = 25 ∧ ∃ c j, ldP o.2.1 T c j ∧ o' = (26, o.2.1, [c])) ∨ (o.1 = 26 ∧ o' = (25, o.2.1, []))
theorem ld_one : ∀ (ws : List (List Int)) (T c c' : List ND) (o o' : Nat), SDC T → ldP ws T c o → ldP ws T c' o' → c' = c ∧ o' = o
  | [], T, c, c', o, o', _, h, h' => by
    obtain ⟨rfl, rfl⟩ := h
    obtain ⟨rfl, rfl⟩ := h'
    exact ⟨rfl, rfl⟩
  | w :: ws, T, c, c', o, o', hT, h, h' => by
    obtain ⟨A, e, B, j, k1, i1, l1, rfl⟩ := h
    obtain ⟨A', e', B', j', k2, i2, l2, rfl⟩ := h'
    obtain ⟨rfl, rfl, rfl⟩ := isK_one (sdc_nd hT) k1 k2 i1 i2
    obtain ⟨a, b⟩ := ld_one ws e' c c' j j' (sdc_kd hT (by rw [k1]; exact List.mem_append_right _ List.mem_cons_self)) l1 l2
    exact ⟨a, by omega⟩
theorem atR_sb {h : List ND → List ND → Prop} (hh : ∀ T U, TR T ∧ PZL T → h T U → (TR U ∧ PZL U) ∧ rq U = rq T) : ∀ (ws : List (List Int)) (T U c : List ND) (o : Nat), SB 12 T → SB 12 U → atR h ws T U → ldP ws T c o → ∃ c1, SB 12 c ∧ SB 12 c1 ∧ h c c1 ∧ atR (fun x y => x = c ∧ y = c1) ws T U
  | [], T, U, c, o, hT, hU, a, l => by
    obtain ⟨rfl, rfl⟩ := l
    exact ⟨U, hT, hU, a, rfl, rfl⟩
  | w :: ws, T, U, c, o, hT, hU, a, l => by
    obtain ⟨A, d, d1, B, k, i, a1, rfl⟩ := a
    obtain ⟨A', d', B', j, k2, i2, l2, rfl⟩ := l
    obtain ⟨rfl, rfl, rfl⟩ := isK_one (sdc_nd hT.1) k k2 i i2
    obtain ⟨hd, ka, _⟩ := kd_ok hT.1.1 k
    obtain ⟨t1, q1⟩ := atR_tr hh ws d' d1 hd a1
    have hE : ∀ u ∈ A' ++ d1 :: B', TR u ∧ PZL u := fun u hu => by
      rcases List.mem_append.mp hu with z | z
      · exact ka u (List.mem_append_left _ z)
      · rcases List.mem_cons.mp z with z | z
        · rw [z]; exact t1
        · exact ka u (List.mem_append_right _ (List.mem_cons_of_mem _ z))
    have kU : kd (gpN (T.getD 0 nd0) (A' ++ d1 :: B') (A' ++ d1 :: B').length) = A' ++ d1 :: B' := kd_gp hE
    have sT := sb_all hT (isK_4 i)
    rw [k] at sT
    have sU := sb_all hU (isK_4 i)
    rw [kU] at sU
    obtain ⟨c1, b1, b2, b3, b4⟩ := atR_sb hh ws d' d1 c j (sb_up (sT d' (List.mem_append_right _ List.mem_cons_self)) (by decide)) (sb_up (sU d1 (List.mem_append_right _ List.mem_cons_self)) (by decide)) a1 l2
    exact ⟨c1, b1, b2, b3, ⟨A', d', d1, B', k, i, b4, rfl⟩⟩
