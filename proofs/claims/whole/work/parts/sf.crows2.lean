/-! THE CLASS's rows: the call -/
section CRB
variable {S S0 : GS} {c d : Nat} {A : List ND}
theorem t_byRows (hc : gT c) (hc3 : c + 8 ≤ 320) (hd : 12 ≤ d) (hv : TO c (A, false) S) (dA : DOC A) (hq : tbQ A) (hG : Good S) : Ev (fun n => f_X11_byRows n d 0 S [((c : Nat) : Int), ((320 : Nat) : Int)]) (fun _ S1 => MdT 320 (apM (some []) (rwT A)) S S1) := by
  have g320 : gT 320 := by decide
  have hV0 := dA.1.1
  have wA := hV0.1.1
  have zA := pz_l hV0.2
  have l1 := hV0.1.2.1
  have l100 := dA.2.2.1
  have w0 := wA.1 0 (by omega)
  obtain ⟨lt1, e10, k1l⟩ := tb_1 dA hq.2.1
  have k5 : nk A 0 = 5 := hq.1
  have n1 : 0 + 1 < 0 + nz A 0 := by
    by_cases z : 0 + 1 < 0 + nz A 0
    · exact z
    · exact absurd (show kids A 0 = [] from ks_nil (by omega)) hq.2.1
  have ec1 : cur (0 + 1) (0 + nz A 0) = 1 := if_pos n1
  have tS : ∀ {r : Option (List ND)} {S1 : GS}, MdT 320 r S S1 → TO c (A, false) S1 := fun h => to_fr hv (mt_ty h).1 (fun k h1 h2 => by unfold trM; omega)
  have fm : ∀ {r : Option (List ND)} {S1 : GS}, MdT 320 r S S1 → Rd (fun n => f_X10_firstOfMap n (d - 1) 0 S1 [((c : Nat) : Int), 0]) 1 S1 := fun h => by
    have := t_firstOfMap (V := A) (g := 0) (d := d - 1) hc (tS h).1 wA (by omega)
    rw [if_pos k5, ec1] at this
    exact this
  -- one MAP
  have L46 : ∀ (k : Nat) (Rs : List (List ND)) (x6 x11 : Int) (Qf : Int → GS → Prop), k < (kids A 1).length → ixR (apM (some []) (gpN (ndK 4) Rs 0)) x11 → inr x6 → (∀ S1, MdT 320 (apM (some []) (gpN (ndK 4) (Rs ++ [rwT1 A (kids A 0) k]) 0)) S S1 → Ev (fun n => f_X11_byRows n d 23 S1 [((c : Nat) : Int), ((320 : Nat) : Int), x6, ((kids A 1).length : Int), ((k + 1 : Nat) : Int)]) Qf) → ∀ (K : List Nat) (e m : Nat) (S1 : GS) (E : List (List ND)), ks A e (0 + nz A 0) = K → 0 < e → e ≤ 0 + nz A 0 → (∀ x ∈ K, x ∈ kids A 0) → m + (0 + nz A 0 - e) ≤ 99 → E ++ K.map (rwC A k) = (kids A 0).map (rwC A k) → MdT 320 (apM (apM (some []) (gpN (ndK 4) Rs 0)) (gpN (ndK 5) E 0)) S S1 → Ev (fun n => f_X11_byRows n d 46 S1 [((c : Nat) : Int), ((320 : Nat) : Int), x6, ((kids A 1).length : Int), (k : Int), x11, cur e (0 + nz A 0), (m : Int)]) Qf := by
    intro k Rs x6 x11 Qf hk hx hi6 nx K
    induction K with
    | nil =>
      intro e m S1 E he h0 hle hK hm hE hM
      have ee : ¬ e < 0 + nz A 0 := fun z => by
        rw [ks_cons zA z] at he
        cases he
      have ec : cur e (0 + nz A 0) = -1 := if_neg ee
      have hE' : E = (kids A 0).map (rwC A k) := by rw [← hE]; exact (List.append_nil E).symm
      rw [ec]
      refine ev_up (fun n => e_X11_byRows_46) ?_
      unfold b_X11_byRows_46
      refine ev_gg (by decide) ?_
      refine ev_ite (fun _ => ?_) (fun z => by omega)
      refine ev_gg (by first | omega | (constructor <;> omega)) ?_
      refine ev_gg (g320) ?_
      refine ev_gc (mt_close (d := d - 1) g320 (by omega) hx hM) (fun _ S2 q2 => ?_)
      refine ev_gv ?_
      rw [show (k : Int) + 1 = ((k + 1 : Nat) : Int) by omega]
      refine nx S2 ?_
      have e1 : apM (apM (some []) (gpN (ndK 4) Rs 0)) (gpN (ndK 5) E E.length) = apM (some []) (gpN (ndK 4) (Rs ++ [rwT1 A (kids A 0) k]) 0) := by
        rw [← apM_gp, List.flatten_cons, List.flatten_nil, List.append_nil, hE']
        rfl
      rw [e1] at q2
      exact q2
    | cons x K ih =>
      intro e m S1 E he h0 hle hK hm hE hM
      have zl : e < 0 + nz A 0 := by
        by_cases z : e < 0 + nz A 0
        · exact z
        · rw [ks_nil (by omega)] at he
          cases he
      obtain ⟨rfl, eK⟩ : e = x ∧ ks A (e + nz A e) (0 + nz A 0) = K := by
        rw [ks_cons zA zl] at he
        exact List.cons.inj he
      have el : e < A.length := by omega
      have ze := zA e
      have we := wA.2.1 0 e h0 zl
      have ec : cur e (0 + nz A 0) = (e : Int) := if_pos zl
      have kk : k < (kids A e).length := by rw [hq.2.2.2 e (hK e List.mem_cons_self)]; exact hk
      have kb := kid_at hV0 el kk
      have nr := (dA.1.2.1 _ (nd_mem el)).1
      have ekI : kI A (e : Int) = nq A e := by rw [kI_n (by omega), Int.toNat_natCast]
      have t1 := tS hM
      rw [ec]
      refine ev_up (fun n => e_X11_byRows_46) ?_
      unfold b_X11_byRows_46
      refine ev_gg (by first | omega | (constructor <;> omega)) ?_
      refine ev_ite (fun z => by omega) (fun _ => ?_)
      refine ev_gg (by first | omega | (constructor <;> omega)) ?_
      refine ev_ite (fun z => by omega) (fun _ => ?_)
      refine ev_gg (by first | omega | (constructor <;> omega)) ?_
      refine ev_gg (hc) ?_
      refine ev_gcr (t_valueAt (V := A) (g := e) (p := (k : Int)) (d := d - 1) hc t1.1 wA el (by omega) (by constructor <;> omega)) ?_
      rw [atK_get _ _ kk]
      refine ev_gg (g320) ?_
      refine mt_brings (d := d) (c := 320) (c2 := c) (U := A) (y := (kids A e).getD k 0) (j := (e : Int)) g320 hc (by omega) (by omega) hv (by omega) wA kb.1 (by constructor <;> omega) (by rw [ekI]; exact nr.2.2.2.2.2.2.2.2.1) hM (fun S2 m2 => ?_)
      have t2 := tS m2
      refine ev_gcr (t_next (V := A) (g := 0) (k := e) (d := d - 1) hc t2.1 wA h0 zl (by omega)) ?_
      refine ev_gv ?_
      rw [show (m : Int) + 1 = ((m + 1 : Nat) : Int) by omega]
      refine ih (e + nz A e) (m + 1) S2 (E ++ [rwC A k e]) eK (by omega) (by omega) (fun y hy => hK y (List.mem_cons_of_mem _ hy)) (by omega) (by rw [← hE, List.append_assoc]; rfl) ?_
      have e1 : apM (apM (apM (some []) (gpN (ndK 4) Rs 0)) (gpN (ndK 5) E 0)) (kyT (sg A ((kids A e).getD k 0)) (kI A (e : Int))) = apM (apM (some []) (gpN (ndK 4) Rs 0)) (gpN (ndK 5) (E ++ [rwC A k e]) 0) := by
        rw [← apM_gp, List.flatten_cons, List.flatten_nil, List.append_nil, ekI]
        rfl
      rw [e1] at m2
      exact m2
  have L23 : ∀ (u k : Nat) (S1 : GS) (x6 : Int), k + u = (kids A 1).length → ixR (some []) x6 → MdT 320 (apM (some []) (gpN (ndK 4) ((rwL A).take k) 0)) S S1 → Ev (fun n => f_X11_byRows n d 23 S1 [((c : Nat) : Int), ((320 : Nat) : Int), x6, ((kids A 1).length : Int), (k : Int)]) (fun _ S1 => MdT 320 (apM (some []) (rwT A)) S S1) := by
    have lr : (rwL A).length = (kids A 1).length := by
      unfold rwL
      rw [List.length_map, List.length_range]
    intro u
    induction u with
    | zero =>
      intro k S1 x6 hku hx6 hM
      have ek : k = (kids A 1).length := by omega
      subst ek
      rw [List.take_of_length_le (by omega)] at hM
      refine ev_up (fun n => e_X11_byRows_23) ?_
      unfold b_X11_byRows_23
      refine ev_gg (by first | omega | (constructor <;> omega)) ?_
      refine ev_gg (by first | omega | (constructor <;> omega)) ?_
      refine ev_ite (fun _ => ?_) (fun z => by omega)
      refine ev_gg (by first | omega | (constructor <;> omega)) ?_
      refine ev_gg (g320) ?_
      refine ev_gc (mt_close (d := d - 1) g320 (by omega) hx6 hM) (fun _ S2 q2 => ?_)
      exact ev_ret q2
    | succ u ih =>
      intro k S1 x6 hku hx6 hM
      have hk : k < (kids A 1).length := by omega
      have et : (rwL A).take (k + 1) = (rwL A).take k ++ [rwT1 A (kids A 0) k] := by
        unfold rwL
        rw [tk_map (z := 0) (by rw [List.length_range]; omega)]
        have : (List.range (kids A 1).length).getD k 0 = k := by
          rw [List.getD_eq_getElem?_getD, List.getElem?_range hk]
          rfl
        rw [this]
      refine ev_up (fun n => e_X11_byRows_23) ?_
      unfold b_X11_byRows_23
      refine ev_gg (by first | omega | (constructor <;> omega)) ?_
      refine ev_gg (by first | omega | (constructor <;> omega)) ?_
      refine ev_ite (fun z => by omega) (fun _ => ?_)
      refine ev_gg (by first | omega | (constructor <;> omega)) ?_
      refine ev_gg (g320) ?_
      refine ev_gc (mt_add (d := d - 1) (k := 5) g320 hM (by decide)) (fun x11 S2 q2 => ?_)
      obtain ⟨hx11, m2⟩ := q2
      refine ev_gg (hc) ?_
      refine ev_gcr (fm m2) ?_
      have L := L46 k ((rwL A).take k) x6 x11 (fun _ S1 => MdT 320 (apM (some []) (rwT A)) S S1) hk hx11 hx6.1 (fun S3 m3 => ih (k + 1) S3 x6 (by omega) hx6 (by rw [et]; exact m3)) (kids A 0) (0 + 1) 0 S2 [] rfl (by decide) (by omega) (fun x hx => hx) (by omega) (List.nil_append _) m2
      rw [ec1] at L
      exact L
  refine ev_up (fun n => e_X11_byRows_0) ?_
  unfold b_X11_byRows_0
  refine ev_gg (by first | omega | (constructor <;> omega)) ?_
  refine ev_gg (g320) ?_
  refine ev_gc (ty_clear (d := d - 1) g320 hG) (fun _ S2 q2 => ?_)
  have m2 : MdT 320 (some []) S S2 := q2
  refine ev_gc (mt_add (d := d - 1) (k := 4) g320 m2 (by decide)) (fun x6 S3 q3 => ?_)
  obtain ⟨hx6, m3⟩ := q3
  refine ev_gg (hc) ?_
  refine ev_gcr (fm m3) ?_
  refine ev_gcr (t_values (V := A) (g := 1) (d := d - 1) hc (tS m3).1 wA lt1 (by omega)) ?_
  exact L23 (kids A 1).length 0 S3 x6 (by omega) hx6 m3
end CRB
