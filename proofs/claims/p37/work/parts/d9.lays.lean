/-! the Editor of the class: a whole PATCH -/
def lyF (U : List ND) (tn : Bool) : List Nat → Nat → List ND → Option (List (List ND)) → Nat ⊕ (List ND × Option (List (List ND)))
  | [], _, V, bk => .inr (V, bk)
  | c :: K, n, V, bk => match lyS U c V with
    | none => .inl n
    | some T => if pOK T then lyF U tn K (n + 1) T (if tn then lyR U c V bk else bk) else .inl n
theorem lyF_c {U : List ND} {tn : Bool} {c : Nat} {K : List Nat} {n : Nat} {V : List ND} {bk : Option (List (List ND))} : lyF U tn (c :: K) n V bk = match lyS U c V with
    | none => .inl n
    | some T => if pOK T then lyF U tn K (n + 1) T (if tn then lyR U c V bk else bk) else .inl n := rfl
def LaQ (tn : Bool) (r : Nat ⊕ (List ND × Option (List (List ND)))) (S : GS) (x : Int) (S1 : GS) : Prop := (match r with
  | .inl n => x = (n : Int)
  | .inr z => x = -1 ∧ (TR z.1 ∧ PZL z.1) ∧ EdV tn z.1 z.2 S1) ∧ Fr edL S S1 ∧ Good S1
section ED9
variable {S S0 : GS} {c2 d : Nat} {V U : List ND} {tn : Bool} {bk : Option (List (List ND))}
theorem lays_8 (hd : 52 ≤ d) (hc2 : gT c2) (hn : c2 < 320) (hU : TR U ∧ PZL U) : ∀ (m i n : Nat) (S : GS) (V : List ND) (bk : Option (List (List ND))), U.length - i < m → 1 ≤ i → n + (U.length - i) ≤ 99 → TR V ∧ PZL V → EdV tn V bk S → TO c2 (U, false) S → Ev (fun q => f_X1_layAll q d 8 S [((c2 : Nat) : Int), cur i U.length, (n : Int)]) (LaQ tn (lyF U tn (ks U i U.length) n V bk) S) := by
  have zU := pz_l hU.2
  have rz : nz U 0 = U.length := hU.1.2.2
  intro m
  induction m with
  | zero => intros; omega
  | succ m ih =>
    intro i n S V bk h1 h2 h3 h hE hu
    have lU : U.length ≤ 100 := tv_l hu.1
    by_cases hi : i < U.length
    · have wi := hU.1.1.1 i hi
      have zi := zU i
      rw [ks_cons zU hi, lyF_c, show cur i U.length = (i : Int) from if_pos hi]
      refine ev_up (fun n => e_X1_layAll_8) ?_
      unfold b_X1_layAll_8
      repeat' (first
        | with_reducible refine ev_gv ?_
        | with_reducible refine ev_gg ?_ ?_
        | with_reducible refine ev_ite (fun _ => ?_) (fun _ => ?_)
        | omega
        | assumption)
      refine ev_gc (ed_layOne (d := d - 1) (by omega) hc2 hn h hE hu hU.1.1 hi) (fun x S1 q1 => ?_)
      obtain ⟨q1, m1, G1⟩ := q1
      have u1 : TO c2 (U, false) S1 := to_fr hu m1 (fun k a b => by unfold edL; omega)
      unfold LaQ
      cases hS : lyS U i V with
      | none =>
        rw [hS] at q1
        have q1' : x = 0 := q1
        subst q1'
        refine ev_gg (by decide) ?_
        refine ev_ite (fun _ => ?_) (fun z => absurd rfl z)
        exact ev_ret ⟨rfl, m1, G1⟩
      | some T =>
        rw [hS] at q1
        obtain ⟨hx, hT, q2⟩ := q1
        subst hx
        refine ev_gg (by decide) ?_
        refine ev_ite (fun z => absurd z (by decide)) (fun _ => ?_)
        rcases q2 with ⟨l1, E1⟩ | ⟨l1, V', t1⟩
        · refine ev_gcr (ed_isDoc (d := d - 1) (by omega) E1.1 hT) ?_
          by_cases c : pOK T
          · rw [if_pos c]
            refine ev_gg (by decide) ?_
            refine ev_ite (fun _ => ?_) (fun z => absurd (by decide) z)
            refine ev_gg hc2 ?_
            have nx := t_next (d := d - 1) (g := 0) (k := i) hc2 u1.1 hU.1.1 (by omega) (by rw [rz]; omega) (by show 0 < U.length; omega)
            rw [Nat.zero_add, rz] at nx
            refine ev_gcr nx ?_
            refine ev_gv ?_
            rw [show (n : Int) + 1 = ((n + 1 : Nat) : Int) by omega]
            have k := ih (i + nz U i) (n + 1) S1 T _ (by omega) (by omega) (by omega) hT E1 u1
            refine ev_mono k (fun y S2 q => ?_)
            unfold LaQ at q
            simp only [if_pos c]
            exact ⟨q.1, fr_tr m1 q.2.1, q.2.2⟩
          · rw [if_neg c]
            refine ev_gg (by decide) ?_
            refine ev_ite (fun z => absurd rfl z) (fun _ => ?_)
            simp only [if_neg c]
            exact ev_ret ⟨rfl, m1, G1⟩
        · refine ev_gcr (ed_isOver (d := d - 1) (by omega) t1) ?_
          refine ev_gg (by decide) ?_
          refine ev_ite (fun z => absurd rfl z) (fun _ => ?_)
          simp only [if_neg (fun z => l1 z.1 : ¬ pOK T)]
          exact ev_ret ⟨rfl, m1, G1⟩
    · rw [ks_nil (by omega), show cur i U.length = -1 from if_neg hi]
      refine ev_up (fun n => e_X1_layAll_8) ?_
      unfold b_X1_layAll_8
      repeat' (first
        | with_reducible refine ev_gv ?_
        | with_reducible refine ev_gg ?_ ?_
        | with_reducible refine ev_ite (fun _ => ?_) (fun _ => ?_)
        | omega
        | assumption)
      exact ev_ret ⟨⟨rfl, h, hE⟩, fr_rf, hE.2.2.2⟩
theorem ed_layAll (hd : 53 ≤ d) (hc2 : gT c2) (hn : c2 < 320) (hU : TR U ∧ PZL U) (h : TR V ∧ PZL V) (hE : EdV tn V bk S) (hu : TO c2 (U, false) S) : Ev (fun q => f_X1_layAll q d 0 S [((c2 : Nat) : Int)]) (LaQ tn (lyF U tn (kids U 0) 0 V bk) S) := by
  have rz : nz U 0 = U.length := hU.1.2.2
  have lU : U.length ≤ 100 := tv_l hu.1
  have l1 := hU.1.2.1
  have f := t_first (d := d - 1) (g := 0) hc2 hu.1 hU.1.1 (by show 0 < U.length; omega)
  rw [Nat.zero_add, show (0 : Nat) + nz (U, false).1 0 = U.length from by rw [Nat.zero_add]; exact rz] at f
  have ek : kids U 0 = ks U 1 U.length := by
    unfold kids
    rw [rz, Nat.zero_add, Nat.zero_add]
  rw [ek]
  refine ev_up (fun n => e_X1_layAll_0) ?_
  unfold b_X1_layAll_0
  refine ev_gg (by omega) ?_
  refine ev_gg hc2 ?_
  refine ev_gcr f ?_
  exact lays_8 (d := d) (by omega) hc2 hn hU (U.length + 1) 1 0 S V bk (by omega) (by omega) (by omega) h hE hu
/-- the Editor begins with a DOCUMENT -/
theorem ed_begin {t : Int} (hd : 4 ≤ d) (hc2 : gT c2) (hn : c2 < 320) (hu : TO c2 (U, false) S) (hU : TR U ∧ PZL U) (hq : rq U = []) (ht : t = 0 ∨ t = 1) (hG : Good S) : Ev (fun n => f_X1_begin n d 0 S [((c2 : Nat) : Int), t]) (fun _ S1 => EdV (decide (t = 1)) U (some []) S1 ∧ Fr edL S S1) := by
  have lU : U.length ≤ 100 := tv_l hu.1
  have l1 := hU.1.2.1
  have sz : szI U 0 = (nz U 0 : Int) := szI_nat (V := U) (i := 0) (by omega)
  have rz : nz U 0 = U.length := hU.1.2.2
  refine ev_up (fun n => e_X1_begin_0) ?_
  unfold b_X1_begin_0
  refine ev_gg (by omega) ?_
  have cp := ty_copyOf (d := d - 1) (S := S) (c := 360) (c2 := c2) (U := U) (o := false) (f := 0) gT360 hc2 (by omega) (by omega) hu.1 hu.2 (by decide) (Or.inl (by rw [sz]; omega)) hG
  rw [cpW_doc l1 rz lU] at cp
  have ek : kyT U [] = U := by
    cases hv : U with
    | nil => rw [hv] at l1; simp at l1
    | cons y t =>
      rw [hv] at hq
      have hq' : y.2.2.2.2 = [] := hq
      show wQ y [] :: t = y :: t
      rw [← hq']
      rfl
  rw [ek] at cp
  refine ev_gc cp (fun _ S1 q1 => ?_)
  refine ev_gg ht ?_
  refine ev_gv ?_
  have G2 : Good (gB S1 482 7 (decide (t = 1))) := good_gB q1.2.2.2
  refine ev_gc (ty_clear gT384 G2) (fun _ S2 q2 => ?_)
  refine ev_gc (ty_add (d := d - 1) (k := 4) gT384 q2 (by decide)) (fun x S3 q3 => ?_)
  obtain ⟨-, q3⟩ := q3
  have q3' : TY 384 (gB S1 482 7 (decide (t = 1))) ([ndK 4], false) S3 := q3
  have m3 := q3'.2.2.1
  refine ev_ret ⟨⟨to_fr (to_fr (to_ty q1) (fr_gB (M := fun k => k = 482) rfl) (fun k a b => by omega)) m3 (fun k a b => by unfold trM; omega), ?_, ⟨to_ty q3', fun t ht => by cases ht⟩, q3'.2.2.2⟩, ?_⟩
  · rw [(m3 482 (by unfold trM; omega)).2.1, gB_a]
  · exact fr_tr (fr_mono q1.2.2.1 (fun k z => by unfold trM at z; unfold edL; omega)) (fr_tr (fr_gB (by unfold edL; omega)) (fr_mono m3 (fun k z => by unfold trM at z; unfold edL; omega)))
end ED9
