/-! THE REFERENCE joins: one place -/
/-- the three documents -/
def JDo (cO cA cB : Nat) (S : GS) : Prop := S.1 500 44 = (cO : Int) ∧ S.1 500 45 = (cA : Int) ∧ S.1 500 46 = (cB : Int)
abbrev joP : Nat → Nat → Prop := fun c j => doP 40 c j ∨ eqP c j ∨ qmP c j
theorem jo_do {c j : Nat} (z : doP 40 c j) : joP c j := Or.inl z
theorem jo_eq {c j : Nat} (z : eqP c j) : joP c j := Or.inr (Or.inl z)
theorem jo_qm {c j : Nat} (z : qmP c j) : joP c j := Or.inr (Or.inr z)
theorem jo_re {c j i : Nat} (hi : i ≤ 100) (z : reP 40 i c j) : joP c j := jo_do (Or.inl ⟨z.1, by omega, by omega⟩)
/-- which of the cases it is -/
def jCs (O A B : List ND) (o a b : Int) : Nat := if alk A a B b ∨ alk B b O o then 0 else if alk A a O o then 1 else if kdI A a = 5 ∧ kdI B b = 5 ∧ (o = -1 ∨ kdI O o = 5) then 2 else 3
def J1Q (O A B : List ND) (o a b : Int) (p w : List Int) (Q : List (List Int)) (r : Option (List ND)) (x : Int) (S1 : GS) : Prop :=
  (jCs O A B o a b = 0 → x = (if a = -1 then 0 else 1) ∧ MD S1 40 (apM r ((acT A a).map mny).flatten) ∧ QmS Q S1) ∧
  (jCs O A B o a b = 1 → x = (if b = -1 then 0 else 1) ∧ MD S1 40 (apM r ((acT B b).map mny).flatten) ∧ QmS Q S1) ∧
  (jCs O A B o a b = 2 → x = 2 ∧ MD S1 40 (apM r [wQ (ndM 5) w]) ∧ QmS Q S1 ∧ 1 ≤ S1.1 502 40) ∧
  (jCs O A B o a b = 3 → x = 0 ∧ MD S1 40 r ∧ QmS (Q ++ [p]) S1)
section RJ1
variable {S : GS} {d cO cA cB : Nat} {O A B : List ND} {o a b : Int} {p w : List Int} {Q : List (List Int)} {r : Option (List ND)}
theorem ky_at {V : List ND} {i : Nat} (hV : TR V ∧ PZL V) (hi : i < V.length) (e : nq V i = w) : kyT (sg V i) w = sg V i := by
  have l1 := (tr_sg hV.1.1 hV.2 hi).1.2.1
  have := ky_self l1
  rw [rq_sg hi (pz_l hV.2 i), e] at this
  exact this
theorem q_joinsOne {M : Nat} (hd : 10 ≤ d) (hc : cO < 40 ∧ cA < 40 ∧ cB < 40) (hJ : JDo cO cA cB S) (hLO : LK S cO O) (hLA : LK S cA A) (hLB : LK S cB B) (hO : DOC O) (hA : DOC A) (hB : DOC B) (ho : nOK O o) (ha : nOK A a) (hb : nOK B b) (hp : PaS S p) (hpl : jCs O A B o a b = 3 → p.length ≤ 300) (hQ : QmS Q S) (hQl : jCs O A B o a b = 3 → Q.length < 200) (hM : M ≤ 1) (hw : M = 1 → WD S w ∧ w.length ≤ 12) (hw0 : M = 0 → w = []) (hka : a ≠ -1 → nq A a.toNat = w) (hkb : b ≠ -1 → nq B b.toNat = w) (hmd : MD S 40 r) : Ev (fun n => f_X12_joinsOne n d 0 S [o, a, b, (M : Int)]) (fun x S1 => J1Q O A B o a b p w Q r x S1 ∧ PaS S1 p ∧ JDo cO cA cB S1 ∧ FC joP S S1) := by
  have lO := hLO.2.1
  have lA := hLA.2.1
  have lB := hLB.2.1
  have io : inr o := by constructor <;> omega
  have ia : inr a := by constructor <;> omega
  have ib : inr b := by constructor <;> omega
  have i01 : ∀ (p : Prop) [Decidable p], inr (if p then (1 : Int) else 0) := fun p _ => by split <;> decide
  have fin : ∀ (S1 : GS), FC joP S S1 → ∀ (S2 : GS), FC joP S1 S2 → PaS S2 p ∧ JDo cO cA cB S2 ∧ FC joP S S2 := fun S1 f1 S2 f2 => by
    have f := fc_tr f1 f2
    exact ⟨pa_fr hp f (by omega) (fun j => by omega), ⟨by rw [fc_i f (by omega)]; exact hJ.1, by rw [fc_i f (by omega)]; exact hJ.2.1, by rw [fc_i f (by omega)]; exact hJ.2.2⟩, f⟩
  have i44 : ∀ S1, FC eqP S S1 → S1.1 500 44 = (cO : Int) ∧ S1.1 500 45 = (cA : Int) ∧ S1.1 500 46 = (cB : Int) := fun S1 f1 => ⟨by rw [fc_i f1 (by omega)]; exact hJ.1, by rw [fc_i f1 (by omega)]; exact hJ.2.1, by rw [fc_i f1 (by omega)]; exact hJ.2.2⟩
  have lks : ∀ S1, FC eqP S S1 → LK S1 cO O ∧ LK S1 cA A ∧ LK S1 cB B := fun S1 f1 => ⟨lk_fr hLO f1 (fun j _ _ => by omega) (by omega), lk_fr hLA f1 (fun j _ _ => by omega) (by omega), lk_fr hLB f1 (fun j _ _ => by omega) (by omega)⟩
  have mds : ∀ S1, FC eqP S S1 → MD S1 40 r := fun S1 f1 => mdr_fr hmd f1 (fun j _ _ => by omega) (by omega) (by omega)
  have qms : ∀ S1, FC eqP S S1 → QmS Q S1 := fun S1 f1 => qm_fr hQ f1 (by omega) (fun j => by omega) (fun j => by omega)
  -- a VALUE of one comes
  have acc : ∀ (S1 : GS) (V : List ND) (v : Int) (cV : Nat) (a6 : Int), FC eqP S S1 → cV < 40 → LK S1 cV V → DOC V → nOK V v → (v ≠ -1 → nq V v.toNat = w) → ((a6 = 0 ∧ S1.1 500 45 = (cV : Int)) ∨ (a6 = 1 ∧ S1.1 500 46 = (cV : Int))) → Ev (fun n => f_X12_joinsOne n d 82 S1 [(M : Int), a6, v]) (fun x S2 => (x = (if v = -1 then 0 else 1) ∧ MD S2 40 (apM r ((acT V v).map mny).flatten) ∧ QmS Q S2) ∧ PaS S2 p ∧ JDo cO cA cB S2 ∧ FC joP S S2) := by
    intro S1 V v cV a6 f1 hcV L1 hV hv hkv h6
    have lV := L1.2.1
    have iv : inr v := by constructor <;> omega
    have m1 := mds S1 f1
    have f1' : FC joP S S1 := fc_mono f1 (fun c j z => jo_eq z)
    have p109 : v ≠ -1 → ∀ s : Int, s = (cV : Int) → Ev (fun n => f_X12_joinsOne n d 109 S1 [(M : Int), v, s, 40]) (fun x S2 => (x = (if v = -1 then 0 else 1) ∧ MD S2 40 (apM r ((acT V v).map mny).flatten) ∧ QmS Q S2) ∧ PaS S2 p ∧ JDo cO cA cB S2 ∧ FC joP S S2) := by
      intro vn s hs
      obtain ⟨v', rfl⟩ : ∃ v' : Nat, v = (v' : Int) := ⟨v.toNat, by omega⟩
      have vl : v' < V.length := by omega
      have kv := hkv vn
      rw [Int.toNat_natCast] at kv
      refine ev_up (fun n => e_X12_joinsOne_109) ?_
      unfold b_X12_joinsOne_109
      refine ev_gg (by first | omega | (constructor <;> omega)) ?_
      refine ev_gc (q_brings (d := d - 1) (K := 40) (F := cV) (I := v') (M := M) (w := w) (by omega) rfl (by decide) hs (by omega) rfl rfl hM (by omega) L1 hV.1.1 vl (fun e => ⟨wd_fr (hw e).1 f1 (by omega) (fun j => by omega), (hw e).2⟩) m1) (fun _ S2 q2 => ?_)
      obtain ⟨m2, f2⟩ := q2
      have ew : (if M = 1 then w else []) = w := by
        by_cases c : M = 1
        · rw [if_pos c]
        · rw [if_neg c, hw0 (by omega)]
      rw [ew, ky_at hV.1.1 vl kv] at m2
      have ea : ((acT V (v' : Int)).map mny).flatten = mny (sg V v') := by
        unfold acT
        rw [if_neg (by omega), Int.toNat_natCast]
        simp
      rw [ea]
      refine ev_gg (iv) ?_
      refine ev_ite (fun _ => ?_) (fun z => absurd vn z)
      refine ev_ret ⟨⟨?_, m2, qm_fr (qms S1 f1) f2 (by omega) (fun j => by omega) (fun j => by omega)⟩, fin S1 f1' S2 (fc_mono f2 (fun c j z => jo_do z))⟩
      rw [if_neg vn]
    refine ev_up (fun n => e_X12_joinsOne_82) ?_
    unfold b_X12_joinsOne_82
    refine ev_gg (iv) ?_
    refine ev_ite (fun z => ?_) (fun z => ?_)
    · refine ev_ite (fun z2 => absurd z z2) (fun _ => ?_)
      refine ev_ret ⟨⟨by rw [if_pos z], ?_, qms S1 f1⟩, fin S1 f1' S1 fc_rf⟩
      have ea : ((acT V v).map mny).flatten = [] := by
        unfold acT
        rw [if_pos z]
        rfl
      rw [ea, md_apn m1]
      exact m1
    · rcases h6 with y | y
      · rw [y.1]
        refine ev_gg (by decide) ?_
        refine ev_ite (fun _ => ?_) (fun z => by omega)
        refine ev_gv ?_
        exact p109 z _ y.2
      · rw [y.1]
        refine ev_gg (by decide) ?_
        refine ev_ite (fun z => by omega) (fun _ => ?_)
        refine ev_gv ?_
        exact p109 z _ y.2
  have p194 : ∀ S1, FC eqP S S1 → Ev (fun n => f_X12_joinsOne n d 194 S1 [(M : Int)]) (fun x S2 => (x = 2 ∧ MD S2 40 (apM r [wQ (ndM 5) w]) ∧ QmS Q S2 ∧ 1 ≤ S2.1 502 40) ∧ PaS S2 p ∧ JDo cO cA cB S2 ∧ FC joP S S2) := by
    intro S1 f1
    have f1' : FC joP S S1 := fc_mono f1 (fun c j z => jo_eq z)
    obtain ⟨n3, n31, n32, n33⟩ := md_n (mds S1 f1)
    refine ev_up (fun n => e_X12_joinsOne_194) ?_
    unfold b_X12_joinsOne_194
    refine ev_gg (by first | omega | (constructor <;> omega)) ?_
    refine ev_gc (ev_and (q_added (d := d - 1) (K := 40) (kd := 5) (by omega) rfl (by decide) (by decide) (mds S1 f1)) (q_added0 (d := d - 1) (K := 40) (kd := 5) (by omega) rfl (by decide) n32 n31)) (fun y S3 q3 => ?_)
    obtain ⟨⟨m3, f3, ye⟩, _, _, n3c, _⟩ := q3
    have n31' : 1 ≤ S3.1 502 40 := by
      rw [n3c]
      split <;> omega
    rw [n32] at ye
    subst ye
    have f3' : FC joP S1 S3 := fc_mono f3 (fun c j z => jo_do z)
    refine ev_gg (by first | omega | (constructor <;> omega)) ?_
    refine ev_ite (fun z => ?_) (fun z => ?_)
    · have w0 := hw0 (by omega)
      refine ev_ret ⟨⟨rfl, ?_, qm_fr (qms S1 f1) f3 (by omega) (fun j => by omega) (fun j => by omega), n31'⟩, fin S1 f1' S3 f3'⟩
      rw [w0]
      exact m3
    · obtain ⟨w1, w2⟩ := hw (by omega)
      refine ev_gc (q_keyIs (d := d - 1) (K := 40) (I := n3) (w := w) (by omega) rfl (by decide) rfl n31 (wd_fr (wd_fr w1 f1 (by omega) (fun j => by omega)) f3 (by omega) (fun j => by omega)) w2 m3) (fun _ S4 q4 => ?_)
      obtain ⟨m4, f4⟩ := q4
      rw [apM_upd (g := fun y => wQ y w) n33] at m4
      refine ev_ret ⟨⟨rfl, m4, qm_fr (qm_fr (qms S1 f1) f3 (by omega) (fun j => by omega) (fun j => by omega)) f4 (by omega) (fun j => by omega) (fun j => by omega), by rw [fc_i f4 (by omega)]; exact n31'⟩, fin S1 f1' S4 (fc_tr f3' (fc_mono f4 (fun c j z => jo_re n31 z)))⟩
  have p221 : jCs O A B o a b = 3 → ∀ S1, FC eqP S S1 → Ev (fun n => f_X12_joinsOne n d 221 S1 [0]) (fun x S2 => (x = 0 ∧ MD S2 40 r ∧ QmS (Q ++ [p]) S2) ∧ PaS S2 p ∧ JDo cO cA cB S2 ∧ FC joP S S2) := by
    intro e3 S1 f1
    have f1' : FC joP S S1 := fc_mono f1 (fun c j z => jo_eq z)
    refine ev_mono (q_met (d := d) (pa_fr hp f1 (by omega) (fun j => by omega)) (hpl e3) (qms S1 f1) (hQl e3)) (fun x S2 q => ?_)
    exact ⟨⟨q.1, mdr_fr (mds S1 f1) q.2.2 (fun j _ _ => by omega) (by omega) (by omega), q.2.1⟩, fin S1 f1' S2 (fc_mono q.2.2 (fun c j z => jo_qm z))⟩
  -- the cases
  have c0 : (alk A a B b ∨ alk B b O o) → ∀ S1, FC eqP S S1 → Ev (fun n => f_X12_joinsOne n d 82 S1 [(M : Int), 0, a]) (fun x S1 => J1Q O A B o a b p w Q r x S1 ∧ PaS S1 p ∧ JDo cO cA cB S1 ∧ FC joP S S1) := by
    intro h0 S1 f1
    have e : jCs O A B o a b = 0 := by unfold jCs; rw [if_pos h0]
    refine ev_mono (acc S1 A a cA 0 f1 hc.2.1 (lks S1 f1).2.1 hA ha hka (Or.inl ⟨rfl, (i44 S1 f1).2.1⟩)) (fun x S2 q => ⟨⟨fun _ => q.1, fun z => ?_, fun z => ?_, fun z => ?_⟩, q.2⟩)
    · rw [e] at z; cases z
    · rw [e] at z; cases z
    · rw [e] at z; cases z
  have c1 : ¬ (alk A a B b ∨ alk B b O o) → alk A a O o → ∀ S1, FC eqP S S1 → Ev (fun n => f_X12_joinsOne n d 82 S1 [(M : Int), 1, b]) (fun x S1 => J1Q O A B o a b p w Q r x S1 ∧ PaS S1 p ∧ JDo cO cA cB S1 ∧ FC joP S S1) := by
    intro h0 h1 S1 f1
    have e : jCs O A B o a b = 1 := by unfold jCs; rw [if_neg h0, if_pos h1]
    refine ev_mono (acc S1 B b cB 1 f1 hc.2.2 (lks S1 f1).2.2 hB hb hkb (Or.inr ⟨rfl, (i44 S1 f1).2.2⟩)) (fun x S2 q => ⟨⟨fun z => ?_, fun _ => q.1, fun z => ?_, fun z => ?_⟩, q.2⟩)
    · rw [e] at z; cases z
    · rw [e] at z; cases z
    · rw [e] at z; cases z
  have c2 : ¬ (alk A a B b ∨ alk B b O o) → ¬ alk A a O o → (kdI A a = 5 ∧ kdI B b = 5 ∧ (o = -1 ∨ kdI O o = 5)) → ∀ S1, FC eqP S S1 → Ev (fun n => f_X12_joinsOne n d 194 S1 [(M : Int)]) (fun x S1 => J1Q O A B o a b p w Q r x S1 ∧ PaS S1 p ∧ JDo cO cA cB S1 ∧ FC joP S S1) := by
    intro h0 h1 h2 S1 f1
    have e : jCs O A B o a b = 2 := by unfold jCs; rw [if_neg h0, if_neg h1, if_pos h2]
    refine ev_mono (p194 S1 f1) (fun x S2 q => ⟨⟨fun z => ?_, fun z => ?_, fun _ => q.1, fun z => ?_⟩, q.2⟩)
    · rw [e] at z; cases z
    · rw [e] at z; cases z
    · rw [e] at z; cases z
  have c3 : ¬ (alk A a B b ∨ alk B b O o) → ¬ alk A a O o → ¬ (kdI A a = 5 ∧ kdI B b = 5 ∧ (o = -1 ∨ kdI O o = 5)) → ∀ S1, FC eqP S S1 → Ev (fun n => f_X12_joinsOne n d 221 S1 [0]) (fun x S1 => J1Q O A B o a b p w Q r x S1 ∧ PaS S1 p ∧ JDo cO cA cB S1 ∧ FC joP S S1) := by
    intro h0 h1 h2 S1 f1
    have e : jCs O A B o a b = 3 := by unfold jCs; rw [if_neg h0, if_neg h1, if_neg h2]
    refine ev_mono (p221 e S1 f1) (fun x S2 q => ⟨⟨fun z => ?_, fun z => ?_, fun z => ?_, fun _ => q.1⟩, q.2⟩)
    · rw [e] at z; cases z
    · rw [e] at z; cases z
    · rw [e] at z; cases z
  have kv : ∀ (V : List ND) (v : Int), nOK V v → v ≠ -1 → ∃ v' : Nat, v = (v' : Int) ∧ v' < V.length := fun V v h1 h2 => ⟨v.toNat, by omega, by omega⟩
  have kn : ∀ (V : List ND), kdI V (-1) ≠ 5 := fun V => by
    unfold kdI
    rw [if_neg (by omega)]
    decide
  have p169 : ∀ (s : Int), ¬ (alk A a B b ∨ alk B b O o) → ¬ alk A a O o → (s = 1 ∧ kdI A a = 5 ∧ kdI B b = 5 ∨ s = 0 ∧ ¬ (kdI A a = 5 ∧ kdI B b = 5)) → ∀ S1, FC eqP S S1 → Ev (fun n => f_X12_joinsOne n d 169 S1 [o, (M : Int), s]) (fun x S1 => J1Q O A B o a b p w Q r x S1 ∧ PaS S1 p ∧ JDo cO cA cB S1 ∧ FC joP S S1) := by
    intro s h0 h1 hs S1 f1
    refine ev_up (fun n => e_X12_joinsOne_169) ?_
    unfold b_X12_joinsOne_169
    rcases hs with ⟨z, k1, k2⟩ | ⟨z, k1⟩
    · rw [z]
      refine ev_gg (by decide) ?_
      refine ev_ite (fun z => by omega) (fun _ => ?_)
      refine ev_gg (io) ?_
      refine ev_ite (fun y => c2 h0 h1 ⟨k1, k2, Or.inl y⟩ S1 f1) (fun y => ?_)
      obtain ⟨o', e, ol⟩ := kv O o ho y
      refine ev_gv ?_
      rw [(i44 S1 f1).1]
      refine ev_gg (by first | omega | (constructor <;> omega)) ?_
      refine ev_gcr (q_kindL (d := d - 1) (K := cO) (I := o') (V := O) (by omega) rfl (by omega) e (lks S1 f1).1 ol) ?_
      have nr := hLO.2.2.2 _ (nd_mem ol)
      have nr1 : 0 ≤ nk O o' ∧ nk O o' ≤ 5 := ⟨nr.1, nr.2.1⟩
      have ek : kdI O o = nk O o' := by rw [e, kdI_n ol]
      refine ev_gg (by first | omega | (constructor <;> omega)) ?_
      refine ev_ite (fun y2 => c3 h0 h1 (fun w => w.2.2.elim y (fun w => y2 (by rw [← ek]; exact w))) S1 f1) (fun y2 => c2 h0 h1 ⟨k1, k2, Or.inr (by omega)⟩ S1 f1)
    · rw [z]
      refine ev_gg (by decide) ?_
      refine ev_ite (fun _ => ?_) (fun z => by omega)
      exact c3 h0 h1 (fun w => k1 ⟨w.1, w.2.1⟩) S1 f1
  have p43 : ∀ (S1 : GS) (x6 s0 : Int), FC eqP S S1 → x6 = (if alk A a B b then 1 else 0) → (¬ alk A a B b → s0 = if alk A a O o then 1 else 0) → (alk A a B b → s0 = 0) → Ev (fun n => f_X12_joinsOne n d 43 S1 [o, a, b, (M : Int), x6, s0]) (fun x S1 => J1Q O A B o a b p w Q r x S1 ∧ PaS S1 p ∧ JDo cO cA cB S1 ∧ FC joP S S1) := by
    intro S1 x6 s0 f1 h6 hs hs0
    by_cases cAB : alk A a B b
    · rw [if_pos cAB] at h6
      have s00 := hs0 cAB
      subst h6
      subst s00
      refine ev_up (fun n => e_X12_joinsOne_43) ?_
      unfold b_X12_joinsOne_43
      refine ev_gg (by decide) ?_
      refine ev_ite (fun _ => ?_) (fun z => absurd (by decide) z)
      refine ev_gg (by decide) ?_
      refine ev_ite (fun _ => ?_) (fun z => absurd rfl z)
      exact c0 (Or.inl cAB) S1 f1
    · rw [if_neg cAB] at h6
      have s00 := hs cAB
      subst h6
      by_cases cAO : alk A a O o
      · have cBO : ¬ alk B b O o := fun z => cAB (alk_tr hO hA hB ho ha hb cAO z)
        rw [if_pos cAO] at s00
        subst s00
        refine ev_up (fun n => e_X12_joinsOne_43) ?_
        unfold b_X12_joinsOne_43
        refine ev_gg (by decide) ?_
        refine ev_ite (fun z => absurd rfl z) (fun _ => ?_)
        refine ev_gg (by decide) ?_
        refine ev_ite (fun _ => ?_) (fun z => absurd (by decide) z)
        refine ev_ite (fun z => absurd z (by decide)) (fun _ => ?_)
        exact c1 (fun z => z.elim cAB cBO) cAO S1 f1
      · rw [if_neg cAO] at s00
        subst s00
        refine ev_up (fun n => e_X12_joinsOne_43) ?_
        unfold b_X12_joinsOne_43
        refine ev_gg (by decide) ?_
        refine ev_ite (fun z => absurd rfl z) (fun _ => ?_)
        refine ev_gg (by decide) ?_
        refine ev_ite (fun z => absurd rfl z) (fun _ => ?_)
        refine ev_gv ?_
        rw [(i44 S1 f1).2.2]
        refine ev_gv ?_
        rw [(i44 S1 f1).1]
        refine ev_gg (by first | omega | (constructor <;> omega)) ?_
        refine ev_gc (q_areAlike (d := d - 1) (K := cB) (F := cO) (V := B) (U := O) (by omega) rfl (by omega) rfl (by omega) hb ho (lks S1 f1).2.2 (lks S1 f1).1 hB hO) (fun x S2 q2 => ?_)
        obtain ⟨xe, f2⟩ := q2
        have f02 := fc_tr f1 f2
        by_cases cBO : alk B b O o
        · rw [if_pos cBO] at xe
          subst xe
          refine ev_gg (by decide) ?_
          refine ev_ite (fun z => absurd z (by decide)) (fun _ => ?_)
          refine ev_ite (fun _ => ?_) (fun z => absurd rfl z)
          exact c0 (Or.inr cBO) S2 f02
        · rw [if_neg cBO] at xe
          subst xe
          have n0 : ¬ (alk A a B b ∨ alk B b O o) := fun z => z.elim cAB cBO
          refine ev_gg (by decide) ?_
          refine ev_ite (fun _ => ?_) (fun z => absurd rfl z)
          refine ev_gg (ia) ?_
          refine ev_ite (fun y => p169 0 n0 cAO (Or.inr ⟨rfl, fun w => kn A (by rw [← y]; exact w.1)⟩) S2 f02) (fun y => ?_)
          refine ev_gg (ib) ?_
          refine ev_ite (fun y2 => p169 0 n0 cAO (Or.inr ⟨rfl, fun w => kn B (by rw [← y2]; exact w.2)⟩) S2 f02) (fun y2 => ?_)
          obtain ⟨a', ea, al⟩ := kv A a ha y
          obtain ⟨b', eb, bl⟩ := kv B b hb y2
          have eka : kdI A a = nk A a' := by rw [ea, kdI_n al]
          have ekb : kdI B b = nk B b' := by rw [eb, kdI_n bl]
          have nr := hLA.2.2.2 _ (nd_mem al)
          have nr1 : 0 ≤ nk A a' ∧ nk A a' ≤ 5 := ⟨nr.1, nr.2.1⟩
          have nr2 := hLB.2.2.2 _ (nd_mem bl)
          have nr3 : 0 ≤ nk B b' ∧ nk B b' ≤ 5 := ⟨nr2.1, nr2.2.1⟩
          refine ev_gv ?_
          rw [(i44 S2 f02).2.1]
          refine ev_gcr (q_kindL (d := d - 1) (K := cA) (I := a') (V := A) (by omega) rfl (by omega) ea (lks S2 f02).2.1 al) ?_
          refine ev_gg (by first | omega | (constructor <;> omega)) ?_
          refine ev_ite (fun y3 => p169 0 n0 cAO (Or.inr ⟨rfl, fun w => y3 (by rw [← eka]; exact w.1)⟩) S2 f02) (fun y3 => ?_)
          refine ev_gv ?_
          rw [(i44 S2 f02).2.2]
          refine ev_gcr (q_kindL (d := d - 1) (K := cB) (I := b') (V := B) (by omega) rfl (by omega) eb (lks S2 f02).2.2 bl) ?_
          refine ev_gg (by first | omega | (constructor <;> omega)) ?_
          refine ev_ite (fun y4 => p169 0 n0 cAO (Or.inr ⟨rfl, fun w => y4 (by rw [← ekb]; exact w.2)⟩) S2 f02) (fun y4 => p169 1 n0 cAO (Or.inl ⟨rfl, by omega, by omega⟩) S2 f02)
  refine ev_up (fun n => e_X12_joinsOne_0) ?_
  unfold b_X12_joinsOne_0
  refine ev_gv ?_
  rw [hJ.2.1]
  refine ev_gv ?_
  rw [hJ.2.2]
  refine ev_gg (by first | omega | (constructor <;> omega)) ?_
  refine ev_gc (q_areAlike (d := d - 1) (K := cA) (F := cB) (V := A) (U := B) (by omega) rfl (by omega) rfl (by omega) ha hb hLA hLB hA hB) (fun x S1 q1 => ?_)
  obtain ⟨xe, f1⟩ := q1
  by_cases cAB : alk A a B b
  · rw [if_pos cAB] at xe
    subst xe
    refine ev_gg (by decide) ?_
    refine ev_ite (fun _ => ?_) (fun z => absurd (by decide) z)
    exact p43 S1 1 0 f1 (by rw [if_pos cAB]) (fun z => absurd cAB z) (fun _ => rfl)
  · rw [if_neg cAB] at xe
    subst xe
    refine ev_gg (by decide) ?_
    refine ev_ite (fun z => absurd rfl z) (fun _ => ?_)
    refine ev_gv ?_
    rw [(i44 S1 f1).2.1]
    refine ev_gv ?_
    rw [(i44 S1 f1).1]
    refine ev_gc (q_areAlike (d := d - 1) (K := cA) (F := cO) (V := A) (U := O) (by omega) rfl (by omega) rfl (by omega) ha ho (lks S1 f1).2.1 (lks S1 f1).1 hA hO) (fun x S2 q2 => ?_)
    obtain ⟨xe, f2⟩ := q2
    by_cases cAO : alk A a O o
    · rw [if_pos cAO] at xe
      subst xe
      refine ev_gg (by decide) ?_
      refine ev_ite (fun z => absurd z (by decide)) (fun _ => ?_)
      exact p43 S2 0 1 (fc_tr f1 f2) (by rw [if_neg cAB]) (fun _ => by rw [if_pos cAO]) (fun z => absurd z cAB)
    · rw [if_neg cAO] at xe
      subst xe
      refine ev_gg (by decide) ?_
      refine ev_ite (fun _ => ?_) (fun z => absurd rfl z)
      exact p43 S2 0 0 (fc_tr f1 f2) (by rw [if_neg cAB]) (fun _ => by rw [if_neg cAO]) (fun z => absurd z cAB)
end RJ1
