/-! JOINING: the whole -/
section JALL
variable {S S0 : GS} {cO cA cB d : Nat} {O A B : List ND} {Qo Qn : List (List Int)} {p : List Int} {r : Option (List ND)}
theorem is_kd {V : List ND} {i k : Int} (hk : k ≠ -1) : isI V i k = if kdI V i = k then 1 else 0 := by
  unfold isI kdI
  by_cases c : 0 ≤ i ∧ i < (V.length : Int)
  · rw [if_pos c]
    by_cases e : nk V i.toNat = k
    · rw [if_pos e, if_pos ⟨c, e⟩]
    · rw [if_neg e, if_neg (fun z => e z.2)]
  · rw [if_neg c, if_neg (fun z => c z.1), if_neg (fun z => hk z.symm)]
theorem jn_0 {o a b x : Int} {Q : Int → GS → Prop} (h3 : dok cO ∧ dok cA ∧ dok cB) (hd : 40 ≤ d) (hO : WF O) (hA : WF A) (hB : WF B) (ho : nOK O o) (ha : nOK A a) (hb : nOK B b) (h : JnS cO cA cB O A B Qo p r Qn S0 S)
    (hl : ¬ alk A a B b → p.length ≤ 300 ∧ Qn.length < 200)
    (k1 : (alk A a B b ∨ alk B b O o) → ∀ S1, JnS cO cA cB O A B Qo p (apM r (acT A a).flatten) Qn S0 S1 → Q 0 S1)
    (k2 : ¬ (alk A a B b ∨ alk B b O o) → alk A a O o → ∀ S1, JnS cO cA cB O A B Qo p (apM r (acT B b).flatten) Qn S0 S1 → Q 0 S1)
    (k3 : ¬ (alk A a B b ∨ alk B b O o) → ¬ alk A a O o → ¬ (kdI A a = 5 ∧ kdI B b = 5 ∧ (o = -1 ∨ kdI O o = 5)) → ∀ S1, JnS cO cA cB O A B Qo p r (Qn ++ [p]) S0 S1 → Q 0 S1)
    (k4 : ¬ (alk A a B b ∨ alk B b O o) → ¬ alk A a O o → (kdI A a = 5 ∧ kdI B b = 5 ∧ (o = -1 ∨ kdI O o = 5)) → Ev (fun n => f_X4_uniteAt n d 113 S [o, a, b, x]) Q) : Ev (fun n => f_X4_uniteAt n d 0 S [o, a, b, x]) Q := by
  have lO : O.length ≤ 100 := tv_l h.2.1.1.1
  have lA : A.length ≤ 100 := tv_l h.2.1.2.1.1
  have lB : B.length ≤ 100 := tv_l h.2.1.2.2.1
  have io : inr o := by rcases ho with z | z <;> constructor <;> omega
  have ia : inr a := by rcases ha with z | z <;> constructor <;> omega
  have ib : inr b := by rcases hb with z | z <;> constructor <;> omega
  have a1 := jn_alike (S := S) (d := d - 1) h3.2.1.1 h3.2.2.1 (by omega) h.2.1.2.1.1 h.2.1.2.2.1 hA hB ha hb
  have a2 := jn_alike (S := S) (d := d - 1) h3.2.2.1 h3.1.1 (by omega) h.2.1.2.2.1 h.2.1.1.1 hB hO hb ho
  have a3 := jn_alike (S := S) (d := d - 1) h3.2.1.1 h3.1.1 (by omega) h.2.1.2.1.1 h.2.1.1.1 hA hO ha ho
  have accA := js_acc (d := d - 1) (i := a) h3 (by omega) h3.2.1 h.2.1.2.1 hA ha h
  have accB := js_acc (d := d - 1) (i := b) h3 (by omega) h3.2.2 h.2.1.2.2 hB hb h
  refine ev_up (fun n => e_X4_uniteAt_0) ?_
  unfold b_X4_uniteAt_0
  rw [h.1.2.1, h.1.2.2]
  refine ev_gv ?_
  refine ev_gv ?_
  refine ev_gg (by omega) ?_
  refine ev_gcr a1 ?_
  by_cases c1 : alk A a B b
  · rw [if_pos c1]
    refine ev_gg (by decide) ?_
    refine ev_ite (fun _ => ?_) (fun z => absurd (by decide) z)
    rw [h.1.2.1]
    refine ev_gv ?_
    refine ev_gc accA (fun _ S1 q => ?_)
    exact ev_ret (k1 (Or.inl c1) S1 q)
  rw [if_neg c1]
  refine ev_gg (by decide) ?_
  refine ev_ite (fun z => absurd rfl z) (fun _ => ?_)
  rw [h.1.2.2, h.1.1]
  refine ev_gv ?_
  refine ev_gv ?_
  refine ev_gcr a2 ?_
  by_cases c2 : alk B b O o
  · rw [if_pos c2]
    refine ev_gg (by decide) ?_
    refine ev_ite (fun z => absurd z (by decide)) (fun _ => ?_)
    rw [h.1.2.1]
    refine ev_gv ?_
    refine ev_gc accA (fun _ S1 q => ?_)
    exact ev_ret (k1 (Or.inr c2) S1 q)
  have c12 : ¬ (alk A a B b ∨ alk B b O o) := fun z => z.elim c1 c2
  rw [if_neg c2]
  refine ev_gg (by decide) ?_
  refine ev_ite (fun _ => ?_) (fun z => absurd rfl z)
  rw [h.1.2.1, h.1.1]
  refine ev_gv ?_
  refine ev_gv ?_
  refine ev_gcr a3 ?_
  by_cases c3 : alk A a O o
  · rw [if_pos c3]
    refine ev_gg (by decide) ?_
    refine ev_ite (fun z => absurd z (by decide)) (fun _ => ?_)
    rw [h.1.2.2]
    refine ev_gv ?_
    refine ev_gc accB (fun _ S1 q => ?_)
    exact ev_ret (k2 c12 c3 S1 q)
  rw [if_neg c3]
  refine ev_gg (by decide) ?_
  refine ev_ite (fun _ => ?_) (fun z => absurd rfl z)
  have hl' := hl c1
  have dis : ¬ (kdI A a = 5 ∧ kdI B b = 5 ∧ (o = -1 ∨ kdI O o = 5)) → Ev (fun n => gc (f_X4_dispute n (d - 1) 0 S []) fun _ S1 => some (0, S1)) Q := fun c =>
    ev_gc (js_disp (d := d - 1) h3 (by omega) h hl'.1 hl'.2) (fun _ S1 q => ev_ret (k3 c12 c3 c S1 q))
  rw [h.1.2.1]
  refine ev_gv ?_
  refine ev_gg h3.2.1.1 ?_
  refine ev_gcr (rd_as (t_is (S := S) (V := A) (d := d - 1) (i := a) (k := 5) h3.2.1.1 h.2.1.2.1.1 ia (by decide)) (is_kd (by decide))) ?_
  by_cases s1 : kdI A a = 5
  · rw [if_pos s1]
    refine ev_gg (by decide) ?_
    refine ev_ite (fun z => absurd z (by decide)) (fun _ => ?_)
    rw [h.1.2.2]
    refine ev_gv ?_
    refine ev_gg h3.2.2.1 ?_
    refine ev_gcr (rd_as (t_is (S := S) (V := B) (d := d - 1) (i := b) (k := 5) h3.2.2.1 h.2.1.2.2.1 ib (by decide)) (is_kd (by decide))) ?_
    by_cases s2 : kdI B b = 5
    · rw [if_pos s2]
      refine ev_gg (by decide) ?_
      refine ev_ite (fun z => absurd z (by decide)) (fun _ => ?_)
      refine ev_gg io ?_
      refine ev_ite (fun z => k4 c12 c3 ⟨s1, s2, Or.inl z⟩) (fun z => ?_)
      rw [h.1.1]
      refine ev_gv ?_
      refine ev_gg h3.1.1 ?_
      refine ev_gcr (rd_as (t_is (S := S) (V := O) (d := d - 1) (i := o) (k := 5) h3.1.1 h.2.1.1.1 io (by decide)) (is_kd (by decide))) ?_
      by_cases s3 : kdI O o = 5
      · rw [if_pos s3]
        refine ev_gg (by decide) ?_
        refine ev_ite (fun z => absurd z (by decide)) (fun _ => ?_)
        exact k4 c12 c3 ⟨s1, s2, Or.inr s3⟩
      · rw [if_neg s3]
        refine ev_gg (by decide) ?_
        refine ev_ite (fun _ => ?_) (fun z => absurd rfl z)
        exact dis (fun w => w.2.2.elim z s3)
    · rw [if_neg s2]
      refine ev_gg (by decide) ?_
      refine ev_ite (fun _ => ?_) (fun z => absurd rfl z)
      exact dis (fun w => s2 w.2.1)
  · rw [if_neg s1]
    refine ev_gg (by decide) ?_
    refine ev_ite (fun _ => ?_) (fun z => absurd rfl z)
    exact dis (fun w => s1 w.1)
/-- a MAP is begun -/
theorem js_open {a : Int} {k : Int → Nat → GS → Option (Int × GS)} {Q : Int → GS → Prop} (h3 : dok cO ∧ dok cA ∧ dok cB) (hd : 5 ≤ d) (ha : nOK A a) (h : JnS cO cA cB O A B Qo p r Qn S0 S) (nx : ∀ x2 S1, (inr x2 ∧ ∀ V, r = some V → V.length < 100 → x2 = (V.length : Int)) → JnS cO cA cB O A B Qo p (apM r (gpN (5, 1, 0, [], kI A a) [] 0)) Qn S0 S1 → Ev (fun n => k x2 n S1) Q) : Ev (fun n => gc (f_X10_add n (d - 1) 0 S [((392 : Nat) : Int), 5]) fun x2 S_3 => gv (S_3.2.2 485 5) fun z5 => gc (f_X10_setKeyLike n (d - 1) 0 S_3 [((392 : Nat) : Int), x2, ((z5 : Nat) : Int), a]) fun _ S_8 => k x2 n S_8) Q := by
  have lA : A.length ≤ 100 := tv_l h.2.1.2.1.1
  have ia : inr a := by rcases ha with z | z <;> constructor <;> omega
  have hG := h.2.2.2.2.2.2
  have st : ∀ W : TW, TO 392 W S → (inr (addA W.1) ∧ ∀ V, r = some V → V.length < 100 → addA W.1 = (V.length : Int)) → (∀ S1, TO 392 (stK (aNd W 5) (addA W.1) (kI A a)) S1 → MdR (apM r (gpN (5, 1, 0, [], kI A a) [] 0)) S1) → Ev (fun n => gc (f_X10_add n (d - 1) 0 S [((392 : Nat) : Int), 5]) fun x2 S_3 => gv (S_3.2.2 485 5) fun z5 => gc (f_X10_setKeyLike n (d - 1) 0 S_3 [((392 : Nat) : Int), x2, ((z5 : Nat) : Int), a]) fun _ S_8 => k x2 n S_8) Q := by
    intro W hW hx hm
    refine ev_gc (ty_add (d := d - 1) (k := 5) gT392 (ty_to hW hG) (by decide)) (fun x S1 q1 => ?_)
    obtain ⟨rfl, q1⟩ := q1
    have n := q1.2.2.1 485 (by unfold trM; omega)
    rw [show S1.2.2 485 5 = cA by rw [n.2.2]; exact h.1.2.1]
    refine ev_gv ?_
    refine ev_gc (ty_setKeyLike (d := d - 1) (U := A) (i := addA W.1) (j := a) gT392 h3.2.1.1 (by have := h3.2.1.2; omega) (by omega) h.2.1.2.1.1 hx.1 ia q1) (fun _ S2 q2 => ?_)
    exact nx _ S2 hx (js_md h3 h (hm S2 (to_ty q2)) q2.2.2.1 q2.2.2.2)
  have stt : ∀ (W : TW) (i : Int), W.2 = true → (stK W i (kI A a)).2 = true := by
    intro W i hw
    cases e : (stK W i (kI A a)).2 with
    | true => rfl
    | false => have := (stK_f e).1; rw [hw] at this; cases this
  have lk : (kI A a).length ≤ 12 := by
    unfold kI
    by_cases c : 0 ≤ a ∧ a < (A.length : Int)
    · rw [if_pos c]
      exact (tv_r (V := A) h.2.1.2.1.1 (by omega)).2.2.2.2.2.2.2.2.1
    · rw [if_neg c]
      decide
  have hr := h.2.2.2.1
  have ir : ∀ V : List ND, V.length ≤ 100 → inr (addA V) := fun V hV => by unfold addA; split <;> constructor <;> omega
  cases r with
  | none =>
    obtain ⟨W, w1, w2⟩ := hr
    refine st W w2 ⟨ir _ (tv_l w2.1), fun V hV => by cases hV⟩ (fun S1 q => ⟨_, stt _ _ ?_, q⟩)
    unfold aNd
    split
    · exact w1
    · rfl
  | some V =>
    refine st (V, false) hr ⟨ir _ (tv_l hr.1), fun V' hV hl => ?_⟩ (fun S1 q => ?_)
    · cases hV
      exact if_pos hl
    · show MdR (if V.length + (gpN (5, 1, 0, [], kI A a) [] 0).length ≤ 100 then some (V ++ gpN (5, 1, 0, [], kI A a) [] 0) else none) S1
      rw [gp_len]
      by_cases c : V.length < 100
      · rw [if_pos (by simp only [List.flatten_nil, List.length_nil]; omega)]
        have ea : addA (V, false).1 = (V.length : Int) := if_pos c
        rw [ea, aNd_ok c, stK_ok (by simp) lk] at q
        have e2 : (V ++ [ndK 5], false).1.set V.length (wQ ((V ++ [ndK 5], false).1.getD V.length nd0) (kI A a)) = V ++ gpN (5, 1, 0, [], kI A a) [] 0 := by
          show (V ++ [ndK 5]).set V.length (wQ ((V ++ [ndK 5]).getD V.length nd0) (kI A a)) = _
          rw [show (V ++ [ndK 5]).getD V.length nd0 = ndK 5 by simp, List.set_append_right _ _ (Nat.le_refl _), Nat.sub_self]
          rfl
        rw [e2] at q
        exact q
      · rw [if_neg (by simp only [List.flatten_nil, List.length_nil]; omega)]
        refine ⟨_, stt _ _ ?_, q⟩
        unfold aNd
        rw [if_neg c]
theorem dp_kid {V : List ND} (hz : PZL V) (hw : WF V) {g c : Nat} {f : Nat} (hg : g < V.length) (h5 : nk V g = 5) (hd : dpO V (g : Int) (f + 1)) (hc : c ∈ kids V g) : dpO V (c : Int) f := by
  intro _ x
  have h := hd (by omega)
  rw [Int.toNat_natCast] at h
  have rk5 : rk (sg V g) = 5 := by
    show ((sg V g).getD 0 nd0).1 = 5
    rw [sg_root hg (pz_l hz g)]
    exact h5
  have := dp_kd (T := sg V g) (t := sg V c) (b := (f : Int) - 1) (fun y => by have := h y; omega) (by omega) (by rw [kd_sg hz hw hg]; exact List.mem_map.mpr ⟨c, hc, rfl⟩) x
  rw [Int.toNat_natCast]
  omega
theorem dp_vl {V : List ND} (hz : PZL V) (hw : WF V) {g : Nat} {f : Nat} (hg : g < V.length) (h5 : nk V g = 5) (hd : dpO V (g : Int) (f + 1)) (q : List Int) : dpO V (vLk V (g : Int) q) f := by
  rw [vLk_c hg h5]
  rcases fdK_mem (V := V) (key := q) (kids V g) with z | ⟨k, z1, z2, z3⟩
  · rw [z]
    exact fun w => absurd rfl w
  · rw [z2]
    exact dp_kid hz hw hg h5 hd z1
theorem jn_unite (h3 : dok cO ∧ dok cA ∧ dok cB) (hO : WF O) (hA : WF A) (hB : WF B) (uO : KUV O) (uA : KUV A) : ∀ (f d : Nat), f ≤ 13 → 2 * f + 40 ≤ d → JnC cO cA cB O A B Qo S0 f d := by
  intro f
  -- bounds at a QUARREL
  have bd : ∀ (S : GS) (p : List Int) (a b : Int) (r : Option (List ND)) (Qn : List (List Int)) (f : Nat), p.length + 25 * f ≤ 325 → nOK A a → nOK B b → dpO A a f → dpO B b f → Qn.length + (szI A a).toNat + (szI B b).toNat ≤ 200 → JnS cO cA cB O A B Qo p r Qn S0 S → ¬ alk A a B b → p.length ≤ 300 ∧ Qn.length < 200 := by
    intro S p a b r Qn f hp ha hb da db hl h hn
    have zA : PZ A := pz_l (nr_pzl h.2.1.2.1.1.2.2.2)
    have zB : PZ B := pz_l (nr_pzl h.2.1.2.2.1.2.2.2)
    rcases ha with z | z
    · rcases hb with y | y
      · exact absurd ((alk_n (Or.inl z)).mpr (by omega)) hn
      · have := zB b.toNat
        have e : szI B b = (nz B b.toNat : Int) := if_pos y
        have k := db (by omega) 0
        have k0 := dp_0 (g := 0) (T := sg B b.toNat)
        constructor <;> omega
    · have := zA a.toNat
      have e : szI A a = (nz A a.toNat : Int) := if_pos z
      have k := da (by omega) 0
      have k0 := dp_0 (g := 0) (T := sg A a.toNat)
      constructor <;> omega
  have nil : ∀ (S : GS) (p : List Int) (r : Option (List ND)) (Qn : List (List Int)), JnS cO cA cB O A B Qo p r Qn S0 S → JnS cO cA cB O A B Qo p (apM r ([] : List (List ND)).flatten) Qn S0 S := fun S p r Qn h => ⟨h.1, h.2.1, h.2.2.1, md_nil h.2.2.2.1, h.2.2.2.2⟩
  induction f with
  | zero =>
    intro d hf hd S p o a b r Qn hp ho ha hb da db hl h
    refine jn_0 h3 (by omega) hO hA hB ho ha hb h (bd S p a b r Qn 0 hp ha hb da db hl h) (fun c1 S1 q => ?_) (fun c1 c2 S1 q => ?_) (fun c1 c2 c3 S1 q => ?_) (fun c1 c2 c3 => ?_)
    · unfold jnF
      rw [if_pos c1, List.append_nil]
      exact q
    · unfold jnF
      rw [if_neg c1, if_pos c2, List.append_nil]
      exact q
    · unfold jnF
      rw [if_neg c1, if_neg c2]
      exact nil S1 p r _ q
    · have hl' := bd S p a b r Qn 0 hp ha hb da db hl h (fun w => c1 (Or.inl w))
      refine ev_up (fun n => e_X4_uniteAt_113) ?_
      unfold b_X4_uniteAt_113
      refine ev_gg (by decide) ?_
      refine ev_ite (fun _ => ?_) (fun z => absurd (by decide) z)
      refine ev_gg (by omega) ?_
      refine ev_gc (js_disp (d := d - 1) h3 (by omega) h hl'.1 hl'.2) (fun _ S1 q => ev_ret ?_)
      unfold jnF
      rw [if_neg c1, if_neg c2]
      exact nil S1 p r _ q
  | succ f ih =>
    intro d hf hd S p o a b r Qn hp ho ha hb da db hl h
    rw [jnF_s]
    refine jn_0 h3 (by omega) hO hA hB ho ha hb h (bd S p a b r Qn (f + 1) hp ha hb da db hl h) (fun c1 S1 q => ?_) (fun c1 c2 S1 q => ?_) (fun c1 c2 c3 S1 q => ?_) (fun c1 c2 c3 => ?_)
    · rw [if_pos c1, List.append_nil]
      exact q
    · rw [if_neg c1, if_pos c2, List.append_nil]
      exact q
    · rw [if_neg c1, if_neg c2, if_neg c3]
      exact nil S1 p r _ q
    rw [if_neg c1, if_neg c2, if_pos c3]
    have zO : PZ O := pz_l (nr_pzl h.2.1.1.1.2.2.2)
    have zlA := nr_pzl h.2.1.2.1.1.2.2.2
    have zlB := nr_pzl h.2.1.2.2.1.2.2.2
    have zA : PZ A := pz_l zlA
    have zB : PZ B := pz_l zlB
    have lO : O.length ≤ 100 := tv_l h.2.1.1.1
    have lA : A.length ≤ 100 := tv_l h.2.1.2.1.1
    have a5 := kd_5 c3.1 (by decide)
    have b5 := kd_5 c3.2.1 (by decide)
    have mo : mpO O o := c3.2.2.imp id (fun z => kd_5 z (by decide))
    obtain ⟨i, rfl⟩ : ∃ i : Nat, a = (i : Int) := ⟨a.toNat, by omega⟩
    obtain ⟨j, rfl⟩ : ∃ j : Nat, b = (j : Int) := ⟨b.toNat, by omega⟩
    rw [Int.toNat_natCast] at a5 b5
    have il : i < A.length := by omega
    have jl : j < B.length := by omega
    have al := js_all (a := i) (b := j) hO hA hB zA zB uO uA mo ⟨il, a5.2.2⟩ ⟨jl, b5.2.2⟩
    rw [szI_c il, szI_c jl] at hl
    have zi := zA i
    have wi := hA.1 i il
    have jq := jq_len hO hA hB zO zA zB uO uA f
    have ekA : kidI A (i : Int) = kids A i := by unfold kidI; rw [if_neg (by omega), Int.toNat_natCast]
    have ekB : kidI B (j : Int) = kids B j := by unfold kidI; rw [if_neg (by omega), Int.toNat_natCast]
    rw [ekA, ekB]
    have dA : ∀ c : Nat, i < c → c < i + nz A i → c ∈ kids A i → dpO A (c : Int) f := fun c _ _ hc => dp_kid zlA hA il a5.2.2 da hc
    have dA2 := dp_vl zlA hA il a5.2.2 da
    have dB2 := dp_vl zlB hB jl b5.2.2 db
    have cat : ∀ (E : List (List ND)) (S1 : GS) (Q1 : List (List Int)), JnS cO cA cB O A B Qo p (apM r (gpN (5, 1, 0, [], kI A (i : Int)) E E.length)) Q1 S0 S1 → JnS cO cA cB O A B Qo p (apM r ([gpN (5, 1, 0, [], kI A (i : Int)) E E.length] : List (List ND)).flatten) Q1 S0 S1 := by
      intro E S1 Q1 q
      rw [List.flatten_cons, List.flatten_nil, List.append_nil]
      exact q
    have maps : Ev (fun n => f_X4_uniteAt n (d - 1) 10000 S [o, (i : Int), (j : Int), 13 - ((f + 1 : Nat) : Int)]) (fun _ S1 => JnS cO cA cB O A B Qo p (apM r (gpN (5, 1, 0, [], kI A (i : Int)) ((j1F (jnF O A B f) O A B (i : Int) (j : Int) p (kidI O o)).1 ++ (j2F (jnF O A B f) O A B o (j : Int) p (kids A i)).1 ++ j3F O A B o (i : Int) (kids B j)) ((j1F (jnF O A B f) O A B (i : Int) (j : Int) p (kidI O o)).1 ++ (j2F (jnF O A B f) O A B o (j : Int) p (kids A i)).1 ++ j3F O A B o (i : Int) (kids B j)).length)) (Qn ++ ((j1F (jnF O A B f) O A B (i : Int) (j : Int) p (kidI O o)).2 ++ (j2F (jnF O A B f) O A B o (j : Int) p (kids A i)).2)) S0 S1) := by
      rw [show (13 : Int) - ((f + 1 : Nat) : Int) = 12 - (f : Int) by omega]
      refine ev_up (fun n => e_X4_uniteMaps_0) ?_
      unfold b_X4_uniteMaps_0
      refine ev_gg (by omega) ?_
      refine js_open (d := d - 1) h3 (by omega) ha h (fun x2 S1 hx q1 => ?_)
      refine ev_gcr (s9_length gSh456 q1.2.2.1.1) ?_
      rw [q1.1.1]
      refine ev_gv ?_
      refine ev_gg h3.1.1 ?_
      rcases mo with rfl | mo
      · refine ev_gcr (t_firstN (d := d - 1 - 1) h3.1.1 q1.2.1.1.1 (by decide) (by decide)) ?_
        have ek : kidI O (-1) = [] := if_pos rfl
        rw [ek] at al ⊢
        have al' : s2F O A B (-1) (j : Int) (ks A (i + 1) (i + nz A i)) ≤ nz A i - 1 + (nz B j - 1) := by
          have : s1F O A B (i : Int) (j : Int) [] = 0 := rfl
          have e : ks A (i + 1) (i + nz A i) = kids A i := rfl
          rw [e]
          omega
        have k := jn_150 (d := d - 1) (S0 := S0) (x := (5, 1, 0, [], kI A (i : Int))) (o := -1) (ih (d - 1 - 1) (by omega) (by omega)) h3 (by omega) hO hA hB (Or.inl rfl) il jl hx (by omega) (by omega) dA dB2 _ (i + 1) 0 S1 [] Qn (Nat.lt_succ_self _) (by omega) (fun c hc => hc) (by decide) (by omega) jq (by omega) q1
        rw [List.nil_append] at k
        refine ev_up (fun n => e_X4_uniteMaps_46) ?_
        unfold b_X4_uniteMaps_46
        refine ev_gg (by decide) ?_
        refine ev_ite (fun _ => ?_) (fun z => absurd rfl z)
        rw [q1.1.2.1]
        refine ev_gv ?_
        refine ev_gg (by omega) ?_
        refine ev_gg h3.2.1.1 ?_
        refine ev_gcr (t_first (V := A) (d := d - 1 - 1) h3.2.1.1 q1.2.1.2.1.1 hA il) ?_
        exact k
      · obtain ⟨l, rfl⟩ : ∃ l : Nat, o = (l : Int) := ⟨o.toNat, by omega⟩
        have ll : l < O.length := by omega
        have zl := zO l
        have wl := hO.1 l ll
        have ek : kidI O (l : Int) = ks O (l + 1) (l + nz O l) := by unfold kidI; rw [if_neg (by omega), Int.toNat_natCast]; rfl
        rw [ek] at al ⊢
        have k := jn_46 (d := d - 1) (S0 := S0) (x := (5, 1, 0, [], kI A (i : Int))) (ih (d - 1 - 1) (by omega) (by omega)) h3 (by omega) hO hA hB ll il jl hx (by omega) (by omega) dA dA2 dB2 _ (l + 1) 0 S1 [] Qn (Nat.lt_succ_self _) (by omega) (by decide) (by omega) jq (by omega) q1
        rw [List.nil_append, List.append_assoc Qn] at k
        refine ev_gcr (t_first (V := O) (d := d - 1 - 1) h3.1.1 q1.2.1.1.1 hO ll) ?_
        exact k
    refine ev_up (fun n => e_X4_uniteAt_113) ?_
    unfold b_X4_uniteAt_113
    refine ev_gg (by constructor <;> omega) ?_
    refine ev_ite (fun z => by omega) (fun _ => ?_)
    refine ev_gg (by omega) ?_
    refine ev_gc maps (fun _ S1 q => ev_ret ?_)
    exact cat _ S1 _ q
end JALL
