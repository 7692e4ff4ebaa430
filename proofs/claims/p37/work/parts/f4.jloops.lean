/-! JOINING: VALUES of MAPS -/
abbrev dpO (A : List ND) (a : Int) (f : Nat) : Prop := a ≠ -1 → ∀ g, dpS g (sg A a.toNat) + 1 ≤ (f : Int)
/-- what joining at a place comes to -/
def JnC (cO cA cB : Nat) (O A B : List ND) (Qo : List (List Int)) (S0 : GS) (f d : Nat) : Prop := ∀ (S : GS) (p : List Int) (o a b : Int) (r : Option (List ND)) (Qn : List (List Int)), p.length + 25 * f ≤ 325 → nOK O o → nOK A a → nOK B b → dpO A a f → dpO B b f → Qn.length + (szI A a).toNat + (szI B b).toNat ≤ 200 → JnS cO cA cB O A B Qo p r Qn S0 S → Ev (fun n => f_X4_uniteAt n d 0 S [o, a, b, 13 - (f : Int)]) (fun _ S1 => JnS cO cA cB O A B Qo p (apM r (jnF O A B f p o a b).1.flatten) (Qn ++ (jnF O A B f p o a b).2) S0 S1)
section JLOOP
variable {S S0 : GS} {cO cA cB d : Nat} {O A B : List ND} {Qo Qn : List (List Int)} {p : List Int} {r : Option (List ND)}
theorem js_close {x : ND} {E : List (List ND)} {x2 : Int} (h3 : dok cO ∧ dok cA ∧ dok cB) (hd : 3 ≤ d) (hx : inr x2 ∧ ∀ V, r = some V → V.length < 100 → x2 = (V.length : Int)) (h : JnS cO cA cB O A B Qo p (apM r (gpN x E 0)) Qn S0 S) : Ev (fun n => f_X10_close n d 0 S [((392 : Nat) : Int), x2]) (fun _ S1 => JnS cO cA cB O A B Qo p (apM r (gpN x E E.length)) Qn S0 S1) := by
  have hr := h.2.2.2.1
  have fin : ∀ W : TW, TO 392 W S → (∀ S1, TO 392 (clo W x2) S1 → MdR (apM r (gpN x E E.length)) S1) → Ev (fun n => f_X10_close n d 0 S [((392 : Nat) : Int), x2]) (fun _ S1 => JnS cO cA cB O A B Qo p (apM r (gpN x E E.length)) Qn S0 S1) := fun W hW k =>
    ev_mono (ty_close gT392 (by omega) (ty_to hW h.2.2.2.2.2.2) hx.1) (fun _ S1 q => js_md h3 h (k S1 (to_ty q)) q.2.2.1 q.2.2.2)
  cases r with
  | none =>
    obtain ⟨W, w1, w2⟩ := hr
    exact fin W w2 (fun S1 q => ⟨clo W x2, by rw [clo_2]; exact w1, q⟩)
  | some V =>
    have el : (gpN x E E.length).length = (gpN x E 0).length := by rw [gp_len, gp_len]
    have e2 : apM (some V) (gpN x E E.length) = if V.length + (gpN x E 0).length ≤ 100 then some (V ++ gpN x E E.length) else none := by rw [← el]; rfl
    have e1 : apM (some V) (gpN x E 0) = if V.length + (gpN x E 0).length ≤ 100 then some (V ++ gpN x E 0) else none := rfl
    rw [e1] at hr
    rw [e2] at fin ⊢
    by_cases c : V.length + (gpN x E 0).length ≤ 100
    · rw [if_pos c] at hr fin ⊢
      refine fin (V ++ gpN x E 0, false) hr (fun S1 q => ?_)
      rw [hx.2 V rfl (by rw [gp_len] at c; omega), clo_gp] at q
      exact q
    · rw [if_neg c] at hr fin ⊢
      obtain ⟨W, w1, w2⟩ := hr
      exact fin W w2 (fun S1 q => ⟨clo W x2, by rw [clo_2]; exact w1, q⟩)
theorem js_to {cT : Nat} {T : List ND} {c : Nat} {k : Nat → GS → Option (Int × GS)} {Q : Int → GS → Prop} (h3 : dok cO ∧ dok cA ∧ dok cB) (hd : 5 ≤ d) (hc : gT cT) (wT : WF T) (hcl : c < T.length) (hpl : p.length ≤ 370) (h : JnS cO cA cB O A B Qo p r Qn S0 S) (hv : TV S cT T) (nx : ∀ S1, JnS cO cA cB O A B Qo (p ++ stp T c) r Qn S0 S1 → Ev (fun n => k n S1) Q) : Ev (fun n => gc (f_X10_stepTo n (d - 1) 0 S [((cT : Nat) : Int), (c : Int), ((456 : Nat) : Int)]) fun _ S1 => k n S1) Q := by
  have sl := stp_len hv c hcl
  refine ev_gc (t_stepTo (d := d - 1) (s := 456) hc gSh456 (by omega) hv wT hcl (sx_rf h.2.2.2.2.2.2 h.2.2.1.1) (by show _ ≤ 400; omega)) (fun _ S1 s1 => ?_)
  refine nx S1 (js_sx h3 h s1 (fun x hx => ?_))
  rcases List.mem_append.mp hx with w | w
  · exact h.2.2.1.2 x w
  · exact stp_r hv c hcl x w
theorem js_back {e : List Int} {k : Nat → GS → Option (Int × GS)} {Q : Int → GS → Prop} (h3 : dok cO ∧ dok cA ∧ dok cB) (h : JnS cO cA cB O A B Qo (p ++ e) r Qn S0 S) (nx : ∀ S1, JnS cO cA cB O A B Qo p r Qn S0 S1 → Ev (fun n => k n S1) Q) : Ev (fun n => gc (f_X9_shorten n (d - 1) 0 S [((456 : Nat) : Int), (p.length : Int)]) fun _ S1 => k n S1) Q := by
  refine ev_gc (s9_shorten (d := d - 1) (k := p.length) gSh456 (sx_rf h.2.2.2.2.2.2 h.2.2.1.1) (by simp)) (fun _ S3 s3 => ?_)
  rw [List.take_left' rfl] at s3
  exact nx S3 (js_sx h3 h s3 (fun x hx => h.2.2.1.2 x (List.mem_append_left _ hx)))
theorem jn_259 {o : Int} {a b : Nat} {x : ND} {x2 : Int} (h3 : dok cO ∧ dok cA ∧ dok cB) (hd : 10 ≤ d) (hO : WF O) (hA : WF A) (hB : WF B) (ho : nOK O o) (ha : a < A.length) (hb : b < B.length) (hx : inr x2 ∧ ∀ V, r = some V → V.length < 100 → x2 = (V.length : Int)) : ∀ (m e : Nat) (n0 : Int) (S : GS) (E : List (List ND)), b + nz B b - e < m → b < e → 0 ≤ n0 → n0 + ((b + nz B b - e : Nat) : Int) ≤ 99 → JnS cO cA cB O A B Qo p (apM r (gpN x E 0)) Qn S0 S → Ev (fun q => f_X4_uniteAt q d 10259 S [o, (a : Int), (b : Int), x2, cur e (b + nz B b), n0]) (fun _ S1 => JnS cO cA cB O A B Qo p (apM r (gpN x (E ++ j3F O A B o a (ks B e (b + nz B b))) (E ++ j3F O A B o a (ks B e (b + nz B b))).length)) Qn S0 S1) := by
  intro m
  induction m with
  | zero => intros; omega
  | succ m ih =>
    intro e n0 S E h1 h2 hh3 h4 h
    have zO : PZ O := pz_l (nr_pzl h.2.1.1.1.2.2.2)
    have zA : PZ A := pz_l (nr_pzl h.2.1.2.1.1.2.2.2)
    have zB : PZ B := pz_l (nr_pzl h.2.1.2.2.1.2.2.2)
    have lO : O.length ≤ 100 := tv_l h.2.1.1.1
    have lA : A.length ≤ 100 := tv_l h.2.1.2.1.1
    have lB : B.length ≤ 100 := tv_l h.2.1.2.2.1
    have io : inr o := by rcases ho with z | z <;> constructor <;> omega
    have wb := hB.1 b hb
    by_cases he : e < b + nz B b
    · have we := hB.2.1 b e h2 he
      have ze := zB e
      have eB : e < B.length := by omega
      rw [ks_cons zB he, show cur e (b + nz B b) = (e : Int) from if_pos he]
      have nx : ∀ (n : List (List ND)) (S2 : GS), JnS cO cA cB O A B Qo p (apM (apM r (gpN x E 0)) n.flatten) Qn S0 S2 → Ev (fun q => f_X4_uniteAt q d 10318 S2 [o, (a : Int), (b : Int), x2, (e : Int), n0]) (fun _ S1 => JnS cO cA cB O A B Qo p (apM r (gpN x (E ++ (n ++ j3F O A B o a (ks B (e + nz B e) (b + nz B b)))) (E ++ (n ++ j3F O A B o a (ks B (e + nz B e) (b + nz B b)))).length)) Qn S0 S1) := by
        intro n S2 q2
        rw [apM_gp] at q2
        rw [← List.append_assoc]
        refine ev_up (fun n => e_X4_uniteMaps_318) ?_
        unfold b_X4_uniteMaps_318
        rw [q2.1.2.2]
        refine ev_gv ?_
        refine ev_gg (by omega) ?_
        refine ev_gg h3.2.2.1 ?_
        refine ev_gcr (t_next (V := B) (d := d - 1) h3.2.2.1 q2.2.1.2.2.1 hB h2 he hb) ?_
        refine ev_gv ?_
        exact ih (e + nz B e) (n0 + 1) S2 (E ++ n) (by omega) (by omega) (by omega) (by omega) q2
      have vl := t_valueLike (V := O) (U := B) (d := d - 1) (g := o) (c2 := cB) (j := e) h3.1.1 h.2.1.1.1 hO io (by omega) h3.2.2.1 h.2.1.2.2.1 eB
      have vr := vLk_r hO zO o (nq B e)
      have wl := t_valueLike (V := A) (U := B) (d := d - 1) (g := (a : Int)) (c2 := cB) (j := e) h3.2.1.1 h.2.1.2.1.1 hA (by constructor <;> omega) (by omega) h3.2.2.1 h.2.1.2.2.1 eB
      have wr := vLk_r hA zA (a : Int) (nq B e)
      show Ev _ (fun _ S1 => JnS cO cA cB O A B Qo p (apM r (gpN x (E ++ ((if vLk O o (nq B e) = -1 ∧ vLk A a (nq B e) = -1 then [sg B e] else []) ++ j3F O A B o a (ks B (e + nz B e) (b + nz B b)))) (E ++ ((if vLk O o (nq B e) = -1 ∧ vLk A a (nq B e) = -1 then [sg B e] else []) ++ j3F O A B o a (ks B (e + nz B e) (b + nz B b)))).length)) Qn S0 S1)
      have skip : JnS cO cA cB O A B Qo p (apM (apM r (gpN x E 0)) ([] : List (List ND)).flatten) Qn S0 S := by
        rw [apM_gp, List.append_nil]
        exact h
      refine ev_up (fun n => e_X4_uniteMaps_259) ?_
      unfold b_X4_uniteMaps_259
      refine ev_gg (by constructor <;> omega) ?_
      refine ev_ite (fun z => by omega) (fun _ => ?_)
      refine ev_gg (by constructor <;> omega) ?_
      refine ev_ite (fun z => by omega) (fun _ => ?_)
      rw [h.1.1, h.1.2.2]
      refine ev_gv ?_
      refine ev_gv ?_
      refine ev_gg (by omega) ?_
      refine ev_gg h3.1.1 ?_
      refine ev_gcr vl ?_
      refine ev_gg (by rcases vr with z | z <;> constructor <;> omega) ?_
      by_cases c1 : vLk O o (nq B e) = -1
      · refine ev_ite (fun z => absurd c1 z) (fun _ => ?_)
        rw [h.1.2.1, h.1.2.2]
        refine ev_gv ?_
        refine ev_gv ?_
        refine ev_gg h3.2.1.1 ?_
        refine ev_gcr wl ?_
        refine ev_gg (by rcases wr with z | z <;> constructor <;> omega) ?_
        by_cases c2 : vLk A (a : Int) (nq B e) = -1
        · rw [if_pos ⟨c1, c2⟩]
          refine ev_ite (fun z => absurd c2 z) (fun _ => ?_)
          rw [h.1.2.2]
          refine ev_gv ?_
          refine ev_gc (js_acc (d := d - 1) (i := (e : Int)) h3 (by omega) h3.2.2 h.2.1.2.2 hB (Or.inr (by omega)) h) (fun _ S2 q2 => ?_)
          have ea : acT B (e : Int) = [sg B e] := by unfold acT; rw [if_neg (by omega), Int.toNat_natCast]
          rw [ea] at q2
          exact nx [sg B e] S2 q2
        · rw [if_neg (fun z => c2 z.2)]
          refine ev_ite (fun _ => ?_) (fun z => absurd (fun w => c2 w) z)
          exact nx [] S skip
      · rw [if_neg (fun z => c1 z.1)]
        refine ev_ite (fun _ => ?_) (fun z => absurd (fun w => c1 w) z)
        exact nx [] S skip
    · rw [ks_nil (by omega), show cur e (b + nz B b) = -1 from if_neg he]
      show Ev _ (fun _ S1 => JnS cO cA cB O A B Qo p (apM r (gpN x (E ++ []) (E ++ []).length)) Qn S0 S1)
      rw [List.append_nil]
      refine ev_up (fun n => e_X4_uniteMaps_259) ?_
      unfold b_X4_uniteMaps_259
      refine ev_gg (by decide) ?_
      refine ev_ite (fun _ => ?_) (fun z => absurd rfl z)
      refine ev_gg (by omega) ?_
      refine ev_gc (js_close (d := d - 1) h3 (by omega) hx h) (fun _ S1 q1 => ?_)
      exact ev_ret q1
end JLOOP
