/-! JOINING: VALUES of MAPS, the first two rows of them -/
section JMAP
variable {S S0 : GS} {cO cA cB d : Nat} {O A B : List ND} {Qo Qn : List (List Int)} {p : List Int} {r : Option (List ND)}
theorem jn_150 {f : Nat} {o : Int} {a b : Nat} {x : ND} {x2 : Int} (ihf : JnC cO cA cB O A B Qo S0 f (d - 1)) (h3 : dok cO ∧ dok cA ∧ dok cB) (hd : 10 ≤ d) (hO : WF O) (hA : WF A) (hB : WF B) (ho : nOK O o) (ha : a < A.length) (hb : b < B.length) (hx : inr x2 ∧ ∀ V, r = some V → V.length < 100 → x2 = (V.length : Int)) (hpl : p.length + 25 * (f + 1) ≤ 325) (hf : f ≤ 12) (dA : ∀ c : Nat, a < c → c < a + nz A a → c ∈ kids A a → dpO A (c : Int) f) (dB : ∀ q : List Int, dpO B (vLk B (b : Int) q) f) : ∀ (m e : Nat) (n0 : Int) (S : GS) (E : List (List ND)) (Qn : List (List Int)), a + nz A a - e < m → a < e → (∀ c ∈ ks A e (a + nz A a), c ∈ kids A a) → 0 ≤ n0 → n0 + ((a + nz A a - e : Nat) : Int) ≤ 99 → (∀ (p : List Int) (o a b : Int), nOK O o → nOK A a → nOK B b → (jnF O A B f p o a b).2.length ≤ (szI A a).toNat + (szI B b).toNat) → Qn.length + s2F O A B o (b : Int) (ks A e (a + nz A a)) ≤ 200 → JnS cO cA cB O A B Qo p (apM r (gpN x E 0)) Qn S0 S → Ev (fun q => f_X4_uniteAt q d 10150 S [o, (a : Int), (b : Int), 12 - (f : Int), x2, (p.length : Int), cur e (a + nz A a), n0]) (fun _ S1 => JnS cO cA cB O A B Qo p (apM r (gpN x (E ++ (j2F (jnF O A B f) O A B o (b : Int) p (ks A e (a + nz A a))).1 ++ j3F O A B o a (kids B b)) (E ++ (j2F (jnF O A B f) O A B o (b : Int) p (ks A e (a + nz A a))).1 ++ j3F O A B o a (kids B b)).length)) (Qn ++ (j2F (jnF O A B f) O A B o (b : Int) p (ks A e (a + nz A a))).2) S0 S1) := by
  intro m
  induction m with
  | zero => intros; omega
  | succ m ih =>
    intro e n0 S E Qn h1 h2 hk hh3 h4 hj hq h
    have zO : PZ O := pz_l (nr_pzl h.2.1.1.1.2.2.2)
    have zA : PZ A := pz_l (nr_pzl h.2.1.2.1.1.2.2.2)
    have zB : PZ B := pz_l (nr_pzl h.2.1.2.2.1.2.2.2)
    have lO : O.length ≤ 100 := tv_l h.2.1.1.1
    have lA : A.length ≤ 100 := tv_l h.2.1.2.1.1
    have lB : B.length ≤ 100 := tv_l h.2.1.2.2.1
    have io : inr o := by rcases ho with z | z <;> constructor <;> omega
    have wa := hA.1 a ha
    have wb := hB.1 b hb
    have zb := zB b
    by_cases he : e < a + nz A a
    · have we := hA.2.1 a e h2 he
      have ze := zA e
      have eA : e < A.length := by omega
      rw [ks_cons zA he] at hk hq ⊢
      rw [show cur e (a + nz A a) = (e : Int) from if_pos he]
      have hk' : ∀ c ∈ ks A (e + nz A e) (a + nz A a), c ∈ kids A a := fun c hc => hk c (List.mem_cons_of_mem _ hc)
      have nx : ∀ (n : List (List ND)) (Q1 : List (List Int)) (S2 : GS), Q1.length + s2F O A B o (b : Int) (ks A (e + nz A e) (a + nz A a)) ≤ 200 → JnS cO cA cB O A B Qo p (apM (apM r (gpN x E 0)) n.flatten) Q1 S0 S2 → Ev (fun q => f_X4_uniteAt q d 10228 S2 [o, (a : Int), (b : Int), 12 - (f : Int), x2, (p.length : Int), (e : Int), n0]) (fun _ S1 => JnS cO cA cB O A B Qo p (apM r (gpN x (E ++ n ++ (j2F (jnF O A B f) O A B o (b : Int) p (ks A (e + nz A e) (a + nz A a))).1 ++ j3F O A B o a (kids B b)) (E ++ n ++ (j2F (jnF O A B f) O A B o (b : Int) p (ks A (e + nz A e) (a + nz A a))).1 ++ j3F O A B o a (kids B b)).length)) (Q1 ++ (j2F (jnF O A B f) O A B o (b : Int) p (ks A (e + nz A e) (a + nz A a))).2) S0 S1) := by
        intro n Q1 S2 l2 q2
        rw [apM_gp] at q2
        refine ev_up (fun n => e_X4_uniteMaps_228) ?_
        unfold b_X4_uniteMaps_228
        rw [q2.1.2.1]
        refine ev_gv ?_
        refine ev_gg (by omega) ?_
        refine ev_gg h3.2.1.1 ?_
        refine ev_gcr (t_next (V := A) (d := d - 1) h3.2.1.1 q2.2.1.2.1.1 hA h2 he ha) ?_
        refine ev_gv ?_
        exact ih (e + nz A e) (n0 + 1) S2 (E ++ n) Q1 (by omega) (by omega) hk' (by omega) (by omega) hj l2 q2
      have vl := t_valueLike (V := O) (U := A) (d := d - 1) (g := o) (c2 := cA) (j := e) h3.1.1 h.2.1.1.1 hO io (by omega) h3.2.1.1 h.2.1.2.1.1 eA
      have vr := vLk_r hO zO o (nq A e)
      have wr := vLk_r hB zB (b : Int) (nq A e)
      have es : s2F O A B o (b : Int) (e :: ks A (e + nz A e) (a + nz A a)) = (if vLk O o (nq A e) = -1 then nz A e + (szI B (vLk B (b : Int) (nq A e))).toNat else 0) + s2F O A B o (b : Int) (ks A (e + nz A e) (a + nz A a)) := rfl
      rw [es] at hq
      unfold j2F
      refine ev_up (fun n => e_X4_uniteMaps_150) ?_
      unfold b_X4_uniteMaps_150
      refine ev_gg (by constructor <;> omega) ?_
      refine ev_ite (fun z => by omega) (fun _ => ?_)
      refine ev_gg (by constructor <;> omega) ?_
      refine ev_ite (fun z => by omega) (fun _ => ?_)
      rw [h.1.1, h.1.2.1]
      refine ev_gv ?_
      refine ev_gv ?_
      refine ev_gg (by omega) ?_
      refine ev_gg h3.1.1 ?_
      refine ev_gcr vl ?_
      refine ev_gg (by rcases vr with z | z <;> constructor <;> omega) ?_
      by_cases c1 : vLk O o (nq A e) = -1
      · rw [if_pos c1] at hq
        simp only [if_pos c1]
        refine ev_ite (fun z => absurd c1 z) (fun _ => ?_)
        rw [h.1.2.1]
        refine ev_gv ?_
        refine ev_gg h3.2.1.1 ?_
        refine js_to (d := d) h3 (by omega) h3.2.1.1 hA eA (by omega) h h.2.1.2.1.1 (fun S1 q1 => ?_)
        rw [q1.1.2.2, q1.1.2.1]
        refine ev_gv ?_
        refine ev_gv ?_
        refine ev_gg h3.2.2.1 ?_
        refine ev_gcr (t_valueLike (V := B) (U := A) (d := d - 1) (g := (b : Int)) (c2 := cA) (j := e) h3.2.2.1 q1.2.1.2.2.1 hB (by constructor <;> omega) (by omega) h3.2.1.1 q1.2.1.2.1.1 eA) ?_
        refine ev_gv ?_
        rw [show 12 - (f : Int) + 1 = 13 - (f : Int) by omega]
        have sle : (stp A e).length ≤ 25 := stp_len h.2.1.2.1.1 e eA
        have szA : szI A (e : Int) = (nz A e : Int) := szI_c eA
        have jl := hj (p ++ stp A e) (-1) (e : Int) (vLk B (b : Int) (nq A e)) (Or.inl rfl) (Or.inr (by omega)) wr
        have me : e ∈ kids A a := hk e List.mem_cons_self
        refine ev_gc (ihf S1 (p ++ stp A e) (-1) (e : Int) (vLk B (b : Int) (nq A e)) (apM r (gpN x E 0)) Qn (by rw [List.length_append]; omega) (Or.inl rfl) (Or.inr (by omega)) wr (dA e h2 he me) (dB _) (by omega) q1) (fun _ S2 q2 => ?_)
        refine js_back (d := d) h3 q2 (fun S3 q3 => ?_)
        have := nx (jnF O A B f (p ++ stp A e) (-1) (e : Int) (vLk B (b : Int) (nq A e))).1 _ S3 (by rw [List.length_append]; omega) q3
        rw [← List.append_assoc, ← List.append_assoc]
        exact this
      · rw [if_neg c1] at hq
        simp only [if_neg c1]
        refine ev_ite (fun _ => ?_) (fun z => absurd (fun w => c1 w) z)
        have := nx [] Qn S (by omega) (by rw [apM_gp, List.append_nil]; exact h)
        rw [List.append_nil] at this
        exact this
    · rw [ks_nil (by omega), show cur e (a + nz A a) = -1 from if_neg he]
      have k := jn_259 (d := d) (Qn := Qn) (S0 := S0) (x := x) (o := o) h3 hd hO hA hB ho ha hb hx _ (b + 1) 0 S E (Nat.lt_succ_self _) (by omega) (by decide) (by omega) h
      show Ev _ (fun _ S1 => JnS cO cA cB O A B Qo p (apM r (gpN x (E ++ [] ++ j3F O A B o a (kids B b)) (E ++ [] ++ j3F O A B o a (kids B b)).length)) (Qn ++ []) S0 S1)
      rw [List.append_nil, List.append_nil]
      refine ev_up (fun n => e_X4_uniteMaps_150) ?_
      unfold b_X4_uniteMaps_150
      refine ev_gg (by decide) ?_
      refine ev_ite (fun _ => ?_) (fun z => absurd rfl z)
      rw [h.1.2.2]
      refine ev_gv ?_
      refine ev_gg (by omega) ?_
      refine ev_gg h3.2.2.1 ?_
      refine ev_gcr (t_first (V := B) (d := d - 1) h3.2.2.1 h.2.1.2.2.1 hB hb) ?_
      exact k
theorem jn_46 {f : Nat} {o a b : Nat} {x : ND} {x2 : Int} (ihf : JnC cO cA cB O A B Qo S0 f (d - 1)) (h3 : dok cO ∧ dok cA ∧ dok cB) (hd : 10 ≤ d) (hO : WF O) (hA : WF A) (hB : WF B) (ho : o < O.length) (ha : a < A.length) (hb : b < B.length) (hx : inr x2 ∧ ∀ V, r = some V → V.length < 100 → x2 = (V.length : Int)) (hpl : p.length + 25 * (f + 1) ≤ 325) (hf : f ≤ 12) (dA : ∀ c : Nat, a < c → c < a + nz A a → c ∈ kids A a → dpO A (c : Int) f) (dA2 : ∀ q : List Int, dpO A (vLk A (a : Int) q) f) (dB : ∀ q : List Int, dpO B (vLk B (b : Int) q) f) : ∀ (m e : Nat) (n0 : Int) (S : GS) (E : List (List ND)) (Qn : List (List Int)), o + nz O o - e < m → o < e → 0 ≤ n0 → n0 + ((o + nz O o - e : Nat) : Int) ≤ 99 → (∀ (p : List Int) (o a b : Int), nOK O o → nOK A a → nOK B b → (jnF O A B f p o a b).2.length ≤ (szI A a).toNat + (szI B b).toNat) → Qn.length + s1F O A B (a : Int) (b : Int) (ks O e (o + nz O o)) + s2F O A B (o : Int) (b : Int) (kids A a) ≤ 200 → JnS cO cA cB O A B Qo p (apM r (gpN x E 0)) Qn S0 S → Ev (fun q => f_X4_uniteAt q d 10046 S [(o : Int), (a : Int), (b : Int), 12 - (f : Int), x2, (p.length : Int), cur e (o + nz O o), n0]) (fun _ S1 => JnS cO cA cB O A B Qo p (apM r (gpN x (E ++ (j1F (jnF O A B f) O A B (a : Int) (b : Int) p (ks O e (o + nz O o))).1 ++ (j2F (jnF O A B f) O A B (o : Int) (b : Int) p (kids A a)).1 ++ j3F O A B o a (kids B b)) (E ++ (j1F (jnF O A B f) O A B (a : Int) (b : Int) p (ks O e (o + nz O o))).1 ++ (j2F (jnF O A B f) O A B (o : Int) (b : Int) p (kids A a)).1 ++ j3F O A B o a (kids B b)).length)) (Qn ++ (j1F (jnF O A B f) O A B (a : Int) (b : Int) p (ks O e (o + nz O o))).2 ++ (j2F (jnF O A B f) O A B (o : Int) (b : Int) p (kids A a)).2) S0 S1) := by
  intro m
  induction m with
  | zero => intros; omega
  | succ m ih =>
    intro e n0 S E Qn h1 h2 hh3 h4 hj hq h
    have zO : PZ O := pz_l (nr_pzl h.2.1.1.1.2.2.2)
    have zA : PZ A := pz_l (nr_pzl h.2.1.2.1.1.2.2.2)
    have zB : PZ B := pz_l (nr_pzl h.2.1.2.2.1.2.2.2)
    have lO : O.length ≤ 100 := tv_l h.2.1.1.1
    have lA : A.length ≤ 100 := tv_l h.2.1.2.1.1
    have lB : B.length ≤ 100 := tv_l h.2.1.2.2.1
    have wo := hO.1 o ho
    have wa := hA.1 a ha
    have za := zA a
    by_cases he : e < o + nz O o
    · have we := hO.2.1 o e h2 he
      have ze := zO e
      have eO : e < O.length := by omega
      rw [ks_cons zO he] at hq ⊢
      rw [show cur e (o + nz O o) = (e : Int) from if_pos he]
      have es : s1F O A B (a : Int) (b : Int) (e :: ks O (e + nz O e) (o + nz O o)) = (szI A (vLk A (a : Int) (nq O e))).toNat + (szI B (vLk B (b : Int) (nq O e))).toNat + s1F O A B (a : Int) (b : Int) (ks O (e + nz O e) (o + nz O o)) := rfl
      rw [es] at hq
      have vr := vLk_r hA zA (a : Int) (nq O e)
      have wr := vLk_r hB zB (b : Int) (nq O e)
      refine ev_up (fun n => e_X4_uniteMaps_46) ?_
      unfold b_X4_uniteMaps_46
      refine ev_gg (by constructor <;> omega) ?_
      refine ev_ite (fun z => by omega) (fun _ => ?_)
      refine ev_gg (by constructor <;> omega) ?_
      refine ev_ite (fun z => by omega) (fun _ => ?_)
      rw [h.1.1]
      refine ev_gv ?_
      refine ev_gg (by omega) ?_
      refine ev_gg h3.1.1 ?_
      refine js_to (d := d) h3 (by omega) h3.1.1 hO eO (by omega) h h.2.1.1.1 (fun S1 q1 => ?_)
      rw [q1.1.2.1, q1.1.1]
      refine ev_gv ?_
      refine ev_gv ?_
      refine ev_gg h3.2.1.1 ?_
      refine ev_gcr (t_valueLike (V := A) (U := O) (d := d - 1) (g := (a : Int)) (c2 := cO) (j := e) h3.2.1.1 q1.2.1.2.1.1 hA (by constructor <;> omega) (by omega) h3.1.1 q1.2.1.1.1 eO) ?_
      rw [q1.1.2.2, q1.1.1]
      refine ev_gv ?_
      refine ev_gv ?_
      refine ev_gg h3.2.2.1 ?_
      refine ev_gcr (t_valueLike (V := B) (U := O) (d := d - 1) (g := (b : Int)) (c2 := cO) (j := e) h3.2.2.1 q1.2.1.2.2.1 hB (by constructor <;> omega) (by omega) h3.1.1 q1.2.1.1.1 eO) ?_
      refine ev_gv ?_
      rw [show 12 - (f : Int) + 1 = 13 - (f : Int) by omega]
      have sle : (stp O e).length ≤ 25 := stp_len h.2.1.1.1 e eO
      have jl := hj (p ++ stp O e) (e : Int) (vLk A (a : Int) (nq O e)) (vLk B (b : Int) (nq O e)) (Or.inr (by omega)) vr wr
      refine ev_gc (ihf S1 (p ++ stp O e) (e : Int) (vLk A (a : Int) (nq O e)) (vLk B (b : Int) (nq O e)) (apM r (gpN x E 0)) Qn (by rw [List.length_append]; omega) (Or.inr (by omega)) vr wr (dA2 _) (dB _) (by omega) q1) (fun _ S2 q2 => ?_)
      refine js_back (d := d) h3 q2 (fun S3 q3 => ?_)
      rw [q3.1.1]
      refine ev_gv ?_
      refine ev_gg h3.1.1 ?_
      refine ev_gcr (t_next (V := O) (d := d - 1) h3.1.1 q3.2.1.1.1 hO h2 he ho) ?_
      refine ev_gv ?_
      rw [apM_gp] at q3
      have := ih (e + nz O e) (n0 + 1) S3 (E ++ (jnF O A B f (p ++ stp O e) (e : Int) (vLk A (a : Int) (nq O e)) (vLk B (b : Int) (nq O e))).1) _ (by omega) (by omega) (by omega) (by omega) hj (by rw [List.length_append]; omega) q3
      show Ev _ (fun _ S1 => JnS cO cA cB O A B Qo p (apM r (gpN x (E ++ (_ ++ (j1F (jnF O A B f) O A B (a : Int) (b : Int) p (ks O (e + nz O e) (o + nz O o))).1) ++ _ ++ _) (E ++ (_ ++ (j1F (jnF O A B f) O A B (a : Int) (b : Int) p (ks O (e + nz O e) (o + nz O o))).1) ++ _ ++ _).length)) (Qn ++ (_ ++ (j1F (jnF O A B f) O A B (a : Int) (b : Int) p (ks O (e + nz O e) (o + nz O o))).2) ++ _) S0 S1)
      rw [← List.append_assoc, ← List.append_assoc]
      exact this
    · rw [ks_nil (by omega)] at hq ⊢
      rw [show cur e (o + nz O o) = -1 from if_neg he]
      have hq' : Qn.length + s2F O A B (o : Int) (b : Int) (ks A (a + 1) (a + nz A a)) ≤ 200 := hq
      have k := jn_150 (d := d) (S0 := S0) (x := x) (o := (o : Int)) ihf h3 hd hO hA hB (Or.inr (by omega)) ha hb hx hpl hf dA dB _ (a + 1) 0 S E Qn (Nat.lt_succ_self _) (by omega) (fun c hc => hc) (by decide) (by omega) hj hq' h
      show Ev _ (fun _ S1 => JnS cO cA cB O A B Qo p (apM r (gpN x (E ++ [] ++ (j2F (jnF O A B f) O A B (o : Int) (b : Int) p (kids A a)).1 ++ j3F O A B o a (kids B b)) (E ++ [] ++ (j2F (jnF O A B f) O A B (o : Int) (b : Int) p (kids A a)).1 ++ j3F O A B o a (kids B b)).length)) (Qn ++ [] ++ (j2F (jnF O A B f) O A B (o : Int) (b : Int) p (kids A a)).2) S0 S1)
      rw [List.append_nil, List.append_nil]
      refine ev_up (fun n => e_X4_uniteMaps_46) ?_
      unfold b_X4_uniteMaps_46
      refine ev_gg (by decide) ?_
      refine ev_ite (fun _ => ?_) (fun z => absurd rfl z)
      rw [h.1.2.1]
      refine ev_gv ?_
      refine ev_gg (by omega) ?_
      refine ev_gg h3.2.1.1 ?_
      refine ev_gcr (t_first (V := A) (d := d - 1) h3.2.1.1 h.2.1.2.1.1 hA ha) ?_
      exact k
end JMAP
