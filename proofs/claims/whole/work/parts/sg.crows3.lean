/-! THE CLASS: rows; columns are made -/
section CRZ
variable {S S1 : GS} {T0 : List ND} {Ds : List (List ND)} {pg pp : List Int} {r : Int} {L : List Nat} {Q : List (List Int)} {C : List (Int × Int)} {d : Nat}
theorem md_wk {k : Nat} (z : trM 320 k) : wkM k := by
  unfold trM at z
  unfold wkM
  omega
/-- what is made is taken in -/
theorem cl_admitM {R : Option (List ND)} {T : List ND} {Sx : GS} (hd : 18 ≤ d) (h : ClS T0 Ds pg pp r L Q C S) (hM : MdT 320 R Sx S) (hR : R = if T.length ≤ 100 then some T else none) (hT : T.length ≤ 100 → SDC T) (hq : rq T = []) : Ev (fun m => f_X11_admit m d 0 S [((320 : Nat) : Int)]) (fun x S1 => if pOK T ∧ Ds.length < 40 then x = (Ds.length : Int) ∧ ClS T0 (Ds ++ [T]) pg pp r L Q C S1 else x = exB + 2 ∧ S1 = S) := by
  by_cases c : T.length ≤ 100
  · rw [if_pos c] at hR
    rw [hR] at hM
    have hV : TY 320 Sx (T, false) S := hM
    exact cl_admitK (c := 320) (by decide) (by decide) hd h ⟨hV.1, hV.2.1⟩ (hT c) c hq
  · rw [if_neg c] at hR
    rw [hR] at hM
    obtain ⟨W, w1, w2⟩ := hM
    simp only [if_neg (show ¬ (pOK T ∧ Ds.length < 40) from fun z => c z.1.1)]
    exact cl_admitN (c := 320) (by decide) (by decide) hd h ⟨w2.1, w2.2.1⟩ w1
theorem c_rows {a : Int} (h : ClS T0 Ds pg pp r L Q C S) (hd : 30 ≤ d) (ha : inr a) : Ev (fun m => f_X11_rows m d 0 S [a]) (fun x S1 => if hasD Ds a then (if tbQ (atD' Ds a) then (if pOK (rwT (atD' Ds a)) ∧ Ds.length < 40 then x = (Ds.length : Int) ∧ ClS T0 (Ds ++ [rwT (atD' Ds a)]) pg pp r L Q C S1 else x = exB + 2 ∧ ClS T0 Ds pg pp r L Q C S1) else x = exB + 2 ∧ ClS T0 Ds pg pp r L Q C S1) else x = exB + 3 ∧ ClS T0 Ds pg pp r L Q C S1) := by
  have ex := ex_e
  have n4 := h.1.2.1
  refine ev_up (fun n => e_X11_rows_0) ?_
  unfold b_X11_rows_0
  refine ev_gg (by first | omega | (constructor <;> omega)) ?_
  refine ev_gcr (cl_doc (d := d - 1) h ha) ?_
  by_cases c : hasD Ds a
  · have at_ := cl_at h c
    rw [if_pos c]
    simp only [if_pos c]
    refine ev_ite (fun _ => ?_) (fun z => by omega)
    rw [Int.toNat_natCast]
    have dA : DOC (atD' Ds a) := at_.2.2
    have tA : TO (8 * a.toNat) (atD' Ds a, false) S := at_.2.1
    have gA := at_.1
    generalize atD' Ds a = A at *
    refine ev_gcr (t_isByColumns (d := d - 1) (A := A) gA.1 (by omega) tA.1 dA) ?_
    by_cases c2 : tbQ A
    · rw [if_pos c2]
      simp only [if_pos c2]
      refine ev_gg (by decide) ?_
      refine ev_ite (fun _ => ?_) (fun z => absurd (by decide) z)
      refine ev_gc (t_byRows (d := d - 1) (A := A) gA.1 (by have := gA.2; omega) (by omega) tA dA c2 h.2.2.2.2.2.2.2.2) (fun _ S2 q2 => ?_)
      have mt := mt_ty q2
      have h2 := cl_fr h mt.1 (fun k z => md_wk z) mt.2
      obtain ⟨_, ctr, crq, csd⟩ := rwT_ok dA c2
      have eR : apM (some []) (rwT A) = if (rwT A).length ≤ 100 then some (rwT A) else none := by
        show (if ([] : List ND).length + (rwT A).length ≤ 100 then some ([] ++ rwT A) else none) = _
        rw [List.length_nil, Nat.zero_add, List.nil_append]
      refine ev_gc (cl_admitM (d := d - 1) (T := rwT A) (by omega) h2 q2 eR csd crq) (fun x S3 q3 => ?_)
      by_cases cp : pOK (rwT A) ∧ Ds.length < 40
      · rw [if_pos cp] at q3
        simp only [if_pos cp]
        refine ev_ite (fun _ => ?_) (fun z => by omega)
        refine ev_gg (by first | omega | (constructor <;> omega)) ?_
        exact ev_ret q3
      · rw [if_neg cp] at q3
        simp only [if_neg cp]
        obtain ⟨rfl, rfl⟩ := q3
        refine ev_ite (fun z => by omega) (fun _ => ?_)
        exact ev_ret ⟨rfl, h2⟩
    · rw [if_neg c2]
      simp only [if_neg c2]
      refine ev_gg (by decide) ?_
      refine ev_ite (fun z => absurd rfl z) (fun _ => ?_)
      exact ev_ret ⟨rfl, h⟩
  · rw [if_neg c]
    simp only [if_neg c]
    refine ev_ite (fun z => by omega) (fun _ => ?_)
    exact ev_ret ⟨rfl, h⟩
end CRZ
/-! a COLUMN is made -/
abbrev ixT (r : Option (List ND)) (n : Nat) (x : Int) : Prop := inr x ∧ ∀ V, r = some V → V.length + n ≤ 100 → x = (V.length : Int)
theorem ix_up {r : Option (List ND)} {n m : Nat} {x : Int} (h : ixT r n x) (hm : n ≤ m) : ixT r m x := ⟨h.1, fun V hV hl => h.2 V hV (by omega)⟩
theorem ix_of {r : Option (List ND)} {n : Nat} {x : Int} (h : ixR r x) (hn : 1 ≤ n) : ixT r n x := ⟨h.1, fun V hV hl => h.2 V hV (by omega)⟩
theorem set_ky {V T : List ND} {q : List Int} (h : 1 ≤ T.length) : (V ++ T).set V.length (wQ ((V ++ T).getD V.length nd0) q) = V ++ kyT T q := by
  have e3 : (V ++ T).getD V.length nd0 = T.getD 0 nd0 := by
    rw [List.getD_eq_getElem?_getD, List.getElem?_append_right (Nat.le_refl _), Nat.sub_self, List.getD_eq_getElem?_getD]
  rw [e3, List.set_append_right _ _ (Nat.le_refl _), Nat.sub_self, ky_eq h]
theorem apM_gpm {r : Option (List ND)} {x : ND} {E n : List (List ND)} {m : Nat} (hm : m ≤ E.length) : apM (apM r (gpN x E m)) n.flatten = apM r (gpN x (E ++ n) m) := by
  rw [apM_app]
  have e : gpN x E m ++ n.flatten = gpN x (E ++ n) m := by
    unfold gpN
    rw [List.take_append_of_le_length hm, List.cons_append, List.flatten_append]
  rw [e]
theorem fdE_no {q : List Int} : ∀ (E : List (List ND)) (i : Nat), (fdE q E i = -1 ↔ ∀ t ∈ E, rq t ≠ q)
  | [], i => ⟨(fun _ t ht => by cases ht), fun _ => rfl⟩
  | u :: E, i => by
    have e : fdE q (u :: E) i = if rq u = q then (i : Int) else fdE q E (i + u.length) := rfl
    rw [e]
    by_cases c : rq u = q
    · rw [if_pos c]
      exact ⟨fun z => by omega, fun z => absurd c (z u List.mem_cons_self)⟩
    · rw [if_neg c, fdE_no E _]
      exact ⟨fun z t ht => by
        rcases List.mem_cons.mp ht with y | y
        · rw [y]; exact c
        · exact z t y, fun z t ht => z t (List.mem_cons_of_mem _ ht)⟩
section MCO
variable {S S0 : GS} {c c2 d : Nat} {r : Option (List ND)} {A : List ND}
theorem mt_closeM {x : ND} {E : List (List ND)} {x2 : Int} {m : Nat} (hc : gT c) (hd : 1 ≤ d) (hx : ixT r (gpN x E 0).length x2) (h : MdT c (apM r (gpN x E m)) S0 S) : Ev (fun n => f_X10_close n d 0 S [((c : Nat) : Int), x2]) (fun _ S1 => MdT c (apM r (gpN x E E.length)) S0 S1) := by
  cases r with
  | none =>
    obtain ⟨W, w1, w2⟩ := h
    exact ev_mono (ty_close hc hd w2 hx.1) (fun _ S1 q => ⟨clo W x2, by rw [clo_2]; exact w1, q⟩)
  | some V =>
    have e2 : apM (some V) (gpN x E E.length) = if V.length + (gpN x E 0).length ≤ 100 then some (V ++ gpN x E E.length) else none := rfl
    have e1 : apM (some V) (gpN x E m) = if V.length + (gpN x E 0).length ≤ 100 then some (V ++ gpN x E m) else none := rfl
    rw [e1] at h
    rw [e2]
    by_cases cc : V.length + (gpN x E 0).length ≤ 100
    · rw [if_pos cc] at h ⊢
      have h' : TY c S0 (V ++ gpN x E m, false) S := h
      refine ev_mono (ty_close hc hd h' hx.1) (fun _ S1 q => ?_)
      rw [hx.2 V rfl cc, clo_gp] at q
      exact q
    · rw [if_neg cc] at h ⊢
      obtain ⟨W, w1, w2⟩ := h
      exact ev_mono (ty_close hc hd w2 hx.1) (fun _ S1 q => ⟨clo W x2, by rw [clo_2]; exact w1, q⟩)
theorem mt_clr {x : Int} {T : List ND} (hc : gT c) (hT : 1 ≤ T.length) (hx : ixT r T.length x) (h : MdT c (apM r T) S0 S) : Ev (fun n => f_X10_clearKey n d 0 S [((c : Nat) : Int), x]) (fun _ S1 => MdT c (apM r (kyT T [])) S0 S1) := by
  have ck : ∀ W : TW, W.2 = true → (cKy W x).2 = true := by
    intro W hw
    unfold cKy
    split
    · exact hw
    · exact hw
  have kl := ky_len (q := []) hT
  cases r with
  | none =>
    obtain ⟨W, w1, w2⟩ := h
    exact ev_mono (ty_clearKey hc w2 hx.1) (fun _ S1 q => ⟨_, ck W w1, q⟩)
  | some V =>
    have e2 : apM (some V) (kyT T []) = if V.length + (kyT T []).length ≤ 100 then some (V ++ kyT T []) else none := rfl
    have e1 : apM (some V) T = if V.length + T.length ≤ 100 then some (V ++ T) else none := rfl
    rw [e1] at h
    rw [e2, kl]
    by_cases cc : V.length + T.length ≤ 100
    · rw [if_pos cc] at h ⊢
      have h' : TY c S0 (V ++ T, false) S := h
      refine ev_mono (ty_clearKey hc h' hx.1) (fun _ S1 q => ?_)
      rw [hx.2 V rfl cc] at q
      have e3 : cKy (V ++ T, false) (V.length : Int) = (V ++ kyT T [], false) := by
        unfold cKy
        rw [if_pos ⟨by omega, by show (V.length : Int) < ((V ++ T).length : Int); rw [List.length_append]; omega⟩, Int.toNat_natCast]
        show ((V ++ T).set V.length (wQ ((V ++ T).getD V.length nd0) []), false) = _
        rw [set_ky hT]
      rw [e3] at q
      exact q
    · rw [if_neg cc] at h ⊢
      obtain ⟨W, w1, w2⟩ := h
      exact ev_mono (ty_clearKey hc w2 hx.1) (fun _ S1 q => ⟨_, ck W w1, q⟩)
theorem mt_key {x j : Int} {T : List ND} (hc : gT c) (hc2 : gT c2) (hne : c2 ≠ c) (hn : c2 + 8 ≤ c) (hd : 1 ≤ d) (hv : TO c2 (A, false) S0) (hj : inr j) (hk : (kI A j).length ≤ 12) (hT : 1 ≤ T.length) (hx : ixT r T.length x) (h : MdT c (apM r T) S0 S) : Ev (fun n => f_X10_setKeyLike n d 0 S [((c : Nat) : Int), x, ((c2 : Nat) : Int), j]) (fun _ S1 => MdT c (apM r (kyT T (kI A j))) S0 S1) := by
  have stt : ∀ (W : TW), W.2 = true → (stK W x (kI A j)).2 = true := by
    intro W hw
    cases e : (stK W x (kI A j)).2 with
    | true => rfl
    | false => have := (stK_f e).1; rw [hw] at this; cases this
  have kl := ky_len (q := kI A j) hT
  cases r with
  | none =>
    obtain ⟨W, w1, w2⟩ := h
    exact ev_mono (ty_setKeyLike (U := A) hc hc2 hne hd hv.1 hx.1 hj w2) (fun _ S1 q => ⟨_, stt W w1, q⟩)
  | some V =>
    have e2 : apM (some V) (kyT T (kI A j)) = if V.length + (kyT T (kI A j)).length ≤ 100 then some (V ++ kyT T (kI A j)) else none := rfl
    have e1 : apM (some V) T = if V.length + T.length ≤ 100 then some (V ++ T) else none := rfl
    rw [e1] at h
    rw [e2, kl]
    by_cases cc : V.length + T.length ≤ 100
    · rw [if_pos cc] at h ⊢
      have h' : TY c S0 (V ++ T, false) S := h
      refine ev_mono (ty_setKeyLike (U := A) hc hc2 hne hd hv.1 hx.1 hj h') (fun _ S1 q => ?_)
      rw [hx.2 V rfl cc, stK_ok (by show V.length < (V ++ T).length; rw [List.length_append]; omega) hk] at q
      have e3 : (V ++ T, false).1.set V.length (wQ ((V ++ T, false).1.getD V.length nd0) (kI A j)) = V ++ kyT T (kI A j) := set_ky hT
      rw [e3] at q
      exact q
    · rw [if_neg cc] at h ⊢
      obtain ⟨W, w1, w2⟩ := h
      exact ev_mono (ty_setKeyLike (U := A) hc hc2 hne hd hv.1 hx.1 hj w2) (fun _ S1 q => ⟨_, stt W w1, q⟩)
theorem mt_app {y : Nat} (hc : gT c) (hc2 : gT c2) (hne : c2 ≠ c) (hd : 1 ≤ d) (hv : TO c2 (A, false) S0) (hn : c2 + 8 ≤ c) (hU : WF A) (hy : y < A.length) (h : MdT c r S0 S) : Ev (fun n => f_X10_append n d 0 S [((c : Nat) : Int), ((c2 : Nat) : Int), (y : Int)]) (fun x S1 => (ixT r (sg A y).length x ∧ 1 ≤ (sg A y).length) ∧ MdT c (apM r (sg A y)) S0 S1) := by
  have mt := mt_ty h
  have tS : TO c2 (A, false) S := to_fr hv mt.1 (fun k h1 h2 => by unfold trM; omega)
  have lU : A.length ≤ 100 := tv_l hv.1
  have zU : PZ A := pz_l (nr_pzl hv.1.2.2.2)
  have wy := hU.1 y hy
  have zy := zU y
  have sz : szI A (y : Int) = (nz A y : Int) := szI_c hy
  have ls : (sg A y).length = nz A y := seg_len wy
  have ir : ∀ W : TW, W.1.length ≤ 100 → inr (apA W A false (y : Int)) := fun W hW => by unfold apA; split <;> constructor <;> omega
  cases r with
  | none =>
    obtain ⟨W, w1, w2⟩ := h
    refine ev_mono (ty_append (U := A) (o := false) (f := (y : Int)) hc hc2 hne hd tS.1 tS.2 (by constructor <;> omega) (Or.inl (by omega)) w2) (fun x S1 q => ?_)
    obtain ⟨rfl, q1⟩ := q
    refine ⟨⟨⟨ir _ (tv_l w2.1), fun V hV => by cases hV⟩, by omega⟩, _, ?_, q1⟩
    unfold apW
    split
    · exact w1
    · rfl
  | some V =>
    have hV : TY c S0 (V, false) S := h
    refine ev_mono (ty_append (U := A) (o := false) (f := (y : Int)) hc hc2 hne hd tS.1 tS.2 (by constructor <;> omega) (Or.inl (by omega)) hV) (fun x S1 q => ?_)
    obtain ⟨rfl, q1⟩ := q
    have hir := ir _ (tv_l hV.1)
    show (ixT (some V) (sg A y).length (apA (V, false) A false (y : Int)) ∧ _) ∧ MdT c (if V.length + (sg A y).length ≤ 100 then some (V ++ sg A y) else none) S0 S1
    rw [ls]
    unfold apW at q1
    rw [sz, Int.toNat_natCast, Int.toNat_natCast] at q1
    by_cases cc : V.length + nz A y ≤ 100
    · rw [if_pos ⟨rfl, by omega, by show (V.length : Int) + _ ≤ 100; omega⟩] at q1
      rw [if_pos cc]
      refine ⟨⟨⟨hir, fun V' hV' _ => ?_⟩, by omega⟩, q1⟩
      cases hV'
      unfold apA
      rw [sz, if_pos ⟨rfl, by omega, by show (V.length : Int) + _ ≤ 100; omega⟩]
    · rw [if_neg (fun z => cc (by have : (V.length : Int) + _ ≤ 100 := z.2.2; omega))] at q1
      rw [if_neg cc]
      refine ⟨⟨⟨hir, fun V' hV' hl => ?_⟩, by omega⟩, _, rfl, q1⟩
      cases hV'
      exact absurd hl cc
/-- a COLUMN comes -/
theorem t_addColumn {C : Nat} (hc : gT c) (hc3 : c + 8 ≤ 320) (hd : 8 ≤ d) (hv : TO c (A, false) S0) (dA : DOC A) (hC : C < A.length) (hM : MdT 320 r S0 S) : Ev (fun n => f_X11_addColumn n d 0 S [((c : Nat) : Int), (C : Int), ((320 : Nat) : Int)]) (fun _ S1 => MdT 320 (apM r (coT A (kids A 0) (nq A C))) S0 S1) := by
  have g320 : gT 320 := by decide
  have hV0 := dA.1.1
  have wA := hV0.1.1
  have zA := pz_l hV0.2
  have l1 := hV0.1.2.1
  have l100 := dA.2.2.1
  have w0 := wA.1 0 (by omega)
  have z0 := zA 0
  have nrC := (dA.1.2.1 _ (nd_mem hC)).1
  have eC : kI A (C : Int) = nq A C := by rw [kI_n (by omega), Int.toNat_natCast]
  have kC : (nq A C).length ≤ 12 := nrC.2.2.2.2.2.2.2.2.1
  have tS : ∀ {R : Option (List ND)} {S1 : GS}, MdT 320 R S0 S1 → TO c (A, false) S1 := fun h => to_fr hv (mt_ty h).1 (fun k h1 h2 => by unfold trM; omega)
  have lp : ∀ (K : List Nat) (e m : Nat) (S1 : GS) (x3 : Int) (F : List (List ND)), ixT r 1 x3 → ks A e (0 + nz A 0) = K → 0 < e → e ≤ 0 + nz A 0 → m + (0 + nz A 0 - e) ≤ 99 → F ++ K.map (ceT A (nq A C)) = (kids A 0).map (ceT A (nq A C)) → MdT 320 (apM r (gpN (wQ (ndK 4) (nq A C)) F 0)) S0 S1 → Ev (fun n => f_X11_addColumn n d 23 S1 [((c : Nat) : Int), (C : Int), ((320 : Nat) : Int), x3, cur e (0 + nz A 0), (m : Int)]) (fun _ S1 => MdT 320 (apM r (coT A (kids A 0) (nq A C))) S0 S1) := by
    intro K
    induction K with
    | nil =>
      intro e m S1 x3 F hx3 he h0 hle hm hF hM1
      have ee : ¬ e < 0 + nz A 0 := fun z => by
        rw [ks_cons zA z] at he
        cases he
      have ec : cur e (0 + nz A 0) = -1 := if_neg ee
      have hF' : F = (kids A 0).map (ceT A (nq A C)) := by rw [← hF]; exact (List.append_nil F).symm
      rw [ec]
      refine ev_up (fun n => e_X11_addColumn_23) ?_
      unfold b_X11_addColumn_23
      refine ev_gg (by decide) ?_
      refine ev_ite (fun _ => ?_) (fun z => by omega)
      refine ev_gg (by first | omega | (constructor <;> omega)) ?_
      refine ev_gg (g320) ?_
      refine ev_gc (mt_closeM (d := d - 1) (m := 0) g320 (by omega) (ix_up hx3 (by rw [gp_len]; omega)) hM1) (fun _ S2 q2 => ?_)
      rw [hF'] at q2
      exact ev_ret q2
    | cons k K ih =>
      intro e m S1 x3 F hx3 he h0 hle hm hF hM1
      have zl : e < 0 + nz A 0 := by
        by_cases z : e < 0 + nz A 0
        · exact z
        · rw [ks_nil (by omega)] at he
          cases he
      obtain ⟨rfl, eK⟩ : e = k ∧ ks A (e + nz A e) (0 + nz A 0) = K := by
        rw [ks_cons zA zl] at he
        exact List.cons.inj he
      have el : e < A.length := by omega
      have ze := zA e
      have we := wA.2.1 0 e h0 zl
      have ec : cur e (0 + nz A 0) = (e : Int) := if_pos zl
      have t1 := tS hM1
      have vr := vLk_r wA zA (e : Int) (nq A C)
      -- behind a VALUE
      have fin : ∀ (T : List ND) (x : Int) (S2 : GS), 1 ≤ T.length → ixT (apM r (gpN (wQ (ndK 4) (nq A C)) F 0)) T.length x → kyT T [] = ceT A (nq A C) e → MdT 320 (apM (apM r (gpN (wQ (ndK 4) (nq A C)) F 0)) T) S0 S2 → Ev (fun n => f_X11_addColumn n d 68 S2 [((c : Nat) : Int), (C : Int), ((320 : Nat) : Int), x3, (e : Int), (m : Int), x, ((320 : Nat) : Int)]) (fun _ S1 => MdT 320 (apM r (coT A (kids A 0) (nq A C))) S0 S1) := by
        intro T x S2 hT hx eT hM2
        refine ev_up (fun n => e_X11_addColumn_68) ?_
        unfold b_X11_addColumn_68
        refine ev_gg (by first | omega | (constructor <;> omega)) ?_
        refine ev_gg (g320) ?_
        refine ev_gc (mt_clr (d := d - 1) g320 hT hx hM2) (fun _ S3 q3 => ?_)
        rw [eT] at q3
        have t3 := tS q3
        refine ev_gg (hc) ?_
        refine ev_gcr (t_next (V := A) (g := 0) (k := e) (d := d - 1) hc t3.1 wA h0 zl (by omega)) ?_
        refine ev_gv ?_
        rw [show (m : Int) + 1 = ((m + 1 : Nat) : Int) by omega]
        refine ih (e + nz A e) (m + 1) S3 x3 (F ++ [ceT A (nq A C) e]) hx3 eK (by omega) (by omega) (by omega) (by rw [← hF, List.append_assoc]; rfl) ?_
        have e5 := apM_gp (r := r) (x := wQ (ndK 4) (nq A C)) (E := F) (n := [ceT A (nq A C) e])
        rw [List.flatten_cons, List.flatten_nil, List.append_nil] at e5
        rw [e5] at q3
        exact q3
      rw [ec]
      refine ev_up (fun n => e_X11_addColumn_23) ?_
      unfold b_X11_addColumn_23
      refine ev_gg (by first | omega | (constructor <;> omega)) ?_
      refine ev_ite (fun z => by omega) (fun _ => ?_)
      refine ev_gg (by first | omega | (constructor <;> omega)) ?_
      refine ev_ite (fun z => by omega) (fun _ => ?_)
      refine ev_gg (by first | omega | (constructor <;> omega)) ?_
      refine ev_gg (hc) ?_
      refine ev_gcr (t_valueLike (V := A) (U := A) (g := (e : Int)) (j := C) (d := d - 1) hc t1.1 wA (by constructor <;> omega) (by omega) hc t1.1 hC) ?_
      refine ev_gg ((by rcases vr with z | z <;> constructor <;> omega)) ?_
      refine ev_ite (fun z => ?_) (fun z => ?_)
      · have vv : 0 ≤ vLk A (e : Int) (nq A C) ∧ vLk A (e : Int) (nq A C) < (A.length : Int) := by
          rcases vr with y | y
          · exact absurd y z
          · omega
        have ev : vLk A (e : Int) (nq A C) = (((vLk A (e : Int) (nq A C)).toNat : Nat) : Int) := by omega
        have eT : kyT (sg A (vLk A (e : Int) (nq A C)).toNat) [] = ceT A (nq A C) e := by
          unfold ceT
          rw [if_neg z]
        generalize (vLk A (e : Int) (nq A C)).toNat = v at *
        rw [ev]
        refine ev_gg (g320) ?_
        refine ev_gc (mt_app (d := d - 1) (y := v) g320 hc (by omega) (by omega) hv (by omega) wA (by omega) hM1) (fun x S2 q2 => ?_)
        exact fin _ x S2 q2.1.2 q2.1.1 eT q2.2
      · have z' : vLk A (e : Int) (nq A C) = -1 := by
          by_cases y : vLk A (e : Int) (nq A C) = -1
          · exact y
          · exact absurd y z
        refine ev_gg (g320) ?_
        refine ev_gc (mt_add (d := d - 1) (k := 0) g320 hM1 (by decide)) (fun x S2 q2 => ?_)
        exact fin (gpN (ndK 0) [] 0) x S2 (by rw [gp_len]; omega) (ix_of q2.1 (by rw [gp_len]; omega)) (by unfold ceT; rw [if_pos z']; rfl) q2.2
  refine ev_up (fun n => e_X11_addColumn_0) ?_
  unfold b_X11_addColumn_0
  refine ev_gg (by first | omega | (constructor <;> omega)) ?_
  refine ev_gg (g320) ?_
  refine ev_gc (mt_add (d := d - 1) (k := 4) g320 hM (by decide)) (fun x3 S2 q2 => ?_)
  obtain ⟨hx3, m2⟩ := q2
  have ix3 : ixT r 1 x3 := ix_of hx3 (Nat.le_refl 1)
  refine ev_gc (mt_key (A := A) (j := (C : Int)) (d := d - 1) g320 hc (by omega) (by omega) (by omega) hv (by constructor <;> omega) (by rw [eC]; exact kC) (by rw [gp_len]; omega) (ix_up ix3 (by rw [gp_len]; omega)) m2) (fun _ S3 m3 => ?_)
  rw [eC] at m3
  have t3 := tS m3
  refine ev_gg (hc) ?_
  refine ev_gcr (t_first (V := A) (g := 0) (d := d - 1) hc t3.1 wA (by omega)) ?_
  exact lp (kids A 0) (0 + 1) 0 S3 x3 [] ix3 rfl (by omega) (by omega) (by omega) (List.nil_append _) m3
end MCO
