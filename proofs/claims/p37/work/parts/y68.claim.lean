/-! THE CLAIM OUT OF THE LAW'S CONTRACT -/
theorem n_cond {args : Array Value} {s : State} (hgv : (Jvm.Cond.and given_1 narrow_1).before args s = true) (i : Nat) {c : Cond} (h : (flatC (Jvm.Cond.and given_1 narrow_1))[i]? = some c) : c.before args s = true := flat_of_before _ hgv _ (List.mem_of_getElem? h)
theorem eq_int {args : Array Value} {s : State} {X : Term} {n : Int32} (h : (Cond.eq X (.int n)).before args s = true) : X.eval args s none [] s = some (.int n) := by
  simp only [Cond.before, Cond.holds, Cond.value, Term.eval] at h
  cases hx : X.eval args s none [] s with
  | none => rw [hx] at h; simp at h
  | some v => rw [hx] at h; cases v <;> simp at h; rw [h]
theorem arrT {args : Array Value} {s : State} {ty : FieldType} (h : (Cond.arrayClass ty).before args s = true) : ∃ c : ClassId, ArrOfT s c ty ∧ s.vm.findClass ("[" ++ ty.toString) = some c := by
  obtain ⟨c, k, comp, h1, h2, h3⟩ := Cond.arrayClass_spec h
  exact ⟨c, fun n z => ⟨(fun k h => by cases h), k, h2, comp, h3⟩, h1⟩
set_option maxHeartbeats 4000000 in
set_option maxRecDepth 100000 in
theorem x_world {args : Array Value} {s : State} (hts : ∀ w ∈ lw_tbl, w.before args s = true) (hgv : (Jvm.Cond.and given_1 narrow_1).before args s = true) {b L : Nat} {xs : Nat → Int32} (hX : va_X b L xs s s.heap) (hb : b < s.heap.size) : ∃ (D : va_G) (cA : Nat → ClassId) (adK adV : Nat → Nat), xPre ((b, L, xs), adK, adV) D cA (fun _ => none) [] s.heap.size s := by
  have hxg : ∀ w ∈ xg, w.before args s = true := fun w hw => hts w (List.mem_filter.mp hw).1
  have hk : ∀ k : Nat, ∃ p : ClassId × (Nat → Nat), ∀ q : vw_C, vwCl[k]? = some q → u_Kn s q.1 q.2.1 q.2.2 p.1 p.2 := by
    intro k
    match k with
    | 0 => obtain ⟨c, iS, h⟩ := u_known (ws := xg) (C := RX0) (T := TX0) (N := 17) hxg xk_X0.2.1 (hxg _ xin_X0); exact ⟨(c, iS), fun q hq => by cases hq; exact h⟩
    | 1 => obtain ⟨c, iS, h⟩ := u_known (ws := xg) (C := RX1) (T := TX1) (N := 12) hxg xk_X1.2.1 (hxg _ xin_X1); exact ⟨(c, iS), fun q hq => by cases hq; exact h⟩
    | 2 => obtain ⟨c, iS, h⟩ := u_known (ws := xg) (C := RX2) (T := TX2) (N := 7) hxg xk_X2.2.1 (hxg _ xin_X2); exact ⟨(c, iS), fun q hq => by cases hq; exact h⟩
    | 3 => obtain ⟨c, iS, h⟩ := u_known (ws := xg) (C := RX3) (T := TX3) (N := 5) hxg xk_X3.2.1 (hxg _ xin_X3); exact ⟨(c, iS), fun q hq => by cases hq; exact h⟩
    | 4 => obtain ⟨c, iS, h⟩ := u_known (ws := xg) (C := RX4) (T := TX4) (N := 9) hxg xk_X4.2.1 (hxg _ xin_X4); exact ⟨(c, iS), fun q hq => by cases hq; exact h⟩
    | 5 => obtain ⟨c, iS, h⟩ := u_known (ws := xg) (C := RX5) (T := TX5) (N := 8) hxg xk_X5.2.1 (hxg _ xin_X5); exact ⟨(c, iS), fun q hq => by cases hq; exact h⟩
    | 6 => obtain ⟨c, iS, h⟩ := u_known (ws := xg) (C := RX6) (T := TX6) (N := 10) hxg xk_X6.2.1 (hxg _ xin_X6); exact ⟨(c, iS), fun q hq => by cases hq; exact h⟩
    | 7 => obtain ⟨c, iS, h⟩ := u_known (ws := xg) (C := RX7) (T := TX7) (N := 4) hxg xk_X7.2.1 (hxg _ xin_X7); exact ⟨(c, iS), fun q hq => by cases hq; exact h⟩
    | 8 => obtain ⟨c, iS, h⟩ := u_known (ws := xg) (C := RX9) (T := TX9) (N := 2) hxg xk_X9.2.1 (hxg _ xin_X9); exact ⟨(c, iS), fun q hq => by cases hq; exact h⟩
    | 9 => obtain ⟨c, iS, h⟩ := u_known (ws := xg) (C := RX10) (T := TX10) (N := 9) hxg xk_X10.2.1 (hxg _ xin_X10); exact ⟨(c, iS), fun q hq => by cases hq; exact h⟩
    | 10 => obtain ⟨c, iS, h⟩ := u_known (ws := xg) (C := RX11) (T := TX11) (N := 16) hxg xk_X11.2.1 (hxg _ xin_X11); exact ⟨(c, iS), fun q hq => by cases hq; exact h⟩
    | k + 11 => exact ⟨(default, fun _ => 0), fun q hq => by cases hq⟩
  obtain ⟨fD, hD⟩ := Classical.axiomOfChoice hk
  obtain ⟨c0, a0, b0⟩ := arrT (hxg _ xac_int)
  obtain ⟨c2, a2, b2⟩ := arrT (hxg _ xac_char)
  obtain ⟨c3, a3, b3⟩ := arrT (hxg _ xac_boolean)
  have hao : (Cond.arrayOver (.object RX10)).before args s = true := hts _ (xti 137 rfl)
  obtain ⟨comp, c4, k4, d1, d2, d3, d4, d5⟩ := Cond.arrayOver_spec hao
  have hA : ∀ a : Nat, a < s.heap.size → ¬ va_A [] s.heap.size a := by
    intro a ha h
    rcases h with ⟨k, e, h⟩ | h
    · cases h
    · omega
  obtain ⟨adK, adV, hS, hE⟩ := s_all (A := va_A [] s.heap.size) hgv hA
  refine ⟨(fun k => (fD k).1, fun k => (fD k).2), fun t => match t with | 0 => c0 | 1 => c0 | 2 => c2 | 3 => c3 | _ => c4, adK, adV, rfl, (fun k q h => by cases h), ⟨(fun i j p q h => by cases h), (fun k q h => by cases h)⟩, ⟨fun c q hq => hD c q hq, ?_⟩, (fun a e h => by cases h), ⟨?_, ?_, hS, ?_, ?_, hX, hb, hA b hb⟩, ⟨?_, ?_, hao, ?_⟩⟩
  · intro k q hq
    match k with
    | 0 => cases hq; exact ⟨a0, b0⟩
    | 1 => cases hq; exact ⟨a0, b0⟩
    | 2 => cases hq; exact ⟨a2, b2⟩
    | 3 => cases hq; exact ⟨a3, b3⟩
    | 4 => cases hq; exact ⟨fun n z => ⟨(fun k h => by cases h), k4, d3, comp, d4⟩, k4, comp, d3, d4, d1, d5⟩
    | k + 5 => cases hq
  · exact vx_Zqof (args := args) (hts _ (xti 857 rfl)) (hts _ (xti 104 rfl)) (n_cond hgv 9 rfl) hA
  · exact vx_Zqof (args := args) (hts _ (xti 859 rfl)) (hts _ (xti 104 rfl)) (n_cond hgv 10 rfl) hA
  · exact va_Zof (args := args) (hts _ (xti 498 rfl)) (hts _ (xti 99 rfl)) (eq_int (n_cond hgv 4 rfl)) hA
  · exact va_Zqof (args := args) (hts _ (xti 514 rfl)) (hts _ (xti 101 rfl)) (n_cond hgv 5 rfl) hA
  · intro w hw hn
    exact va_tabs (by cases w <;> first | rfl | cases hn) rfl (hts w hw)
  · exact s_site hgv hA hts hE
  · intro q hq
    unfold xncs at hq
    simp only [List.mem_cons, List.not_mem_nil, or_false] at hq
    rcases hq with rfl | rfl
    · exact va_Nc.of (n_cond hgv 22 rfl)
    · exact va_Nc.of (n_cond hgv 23 rfl)
def lw_P (b : Addr) (xs : List Int32) (args : Array Value) (s : State) : Prop := args = #[.ref b] ∧ s.IntsAt b xs ∧ xs.length ≤ 260 ∧ (Jvm.Cond.and given_1 narrow_1).before args s = true
def lw_Q (_ : Array Value) (s : State) (o : Outcome) (t : State) : Prop := o = .returned (some (.int 1)) ∧ Framed s o t [] 600130 7301080
set_option maxHeartbeats 4000000 in
theorem lw_walk (hp : PureAll) (l : Launch) (hflags : l.flags = flags0) (b : Addr) (xs : List Int32) : MetFree l x (headSpec (Jvm.Cond.code x code maxLocals ret :: tables_1) room_1) (lw_P b xs) (fun _ _ _ _ _ => True) lw_Q := by
  intro p e ha hc hk s m args below hf happ hP _
  obtain ⟨rfl, hx, hbd, hgv⟩ := hP
  obtain ⟨scr, harrAt, hlist, hof, hsmall⟩ := hx
  obtain ⟨hcb, hkn, -, -⟩ := State.arrayAt?_spec harrAt
  have hsz : scr.slots.size = xs.length := by rw [← Array.length_toList, hlist, List.length_map]
  have hval : ∀ j : Nat, j < xs.length → scr.slots[j]? = some (.int (xs.getD j 0)) := fun j hj => by
    rw [← Array.getElem?_toList, hlist]
    simp [hj]
  have hbl : b < s.heap.size := (Array.getElem?_eq_some_iff.mp hcb).1
  have hX : va_X b xs.length (fun j => xs.getD j 0) s s.heap := ⟨scr, hcb, hof, hkn, hsz, hval⟩
  have happ0 := happ
  unfold Spec.appliesLoose at happ
  rw [hf] at happ
  simp only [Bool.and_eq_true] at happ
  obtain ⟨hq1, hq2⟩ := happ
  have hts0 : ∀ c ∈ (Jvm.Cond.code x code maxLocals ret :: tables_1), c.before #[Value.ref b] s = true := atoms_spec (ws := Jvm.Cond.code x code maxLocals ret :: tables_1) hq2
  have hts : ∀ w ∈ lw_tbl, w.before #[Value.ref b] s = true := k2_hts_sels lw_privs (fun w hw => hts0 w (List.mem_cons_of_mem _ hw)) lw_privs_ok
  obtain ⟨D, cA, adK, adV, hpre⟩ := x_world hts hgv hX hbl
  obtain ⟨n1, n3, x1, S1, S3, H1, H3⟩ := hp xs.length (fun k => (xs.getD k 0).toInt) hbd (fun k => ⟨Int32.le_toInt _, Int32.toInt_lt _⟩)
  have hst : l.stackTraces = false := by
    unfold Launch.stackTraces
    rw [hflags]
    decide +kernel
  have hM := x_law (l := l) (Z := ((b, xs.length, fun j => xs.getD j 0), adK, adV)) H1 H3 hst D cA [] s.heap.size
  have happ2 : (headSpec (xw yL_law cL_law 9 (some .boolean) []) (xrm 2036 600130 7301080)).appliesLoose yL_law e.platform s = true := by
    unfold Spec.appliesLoose
    rw [hf]
    simp only [Bool.and_eq_true]
    refine ⟨hq1, atoms_intro (ws := xw yL_law cL_law 9 (some .boolean) []) (fun w hw => ?_)⟩
    rcases List.mem_cons.mp hw with rfl | hw
    · exact hts0 _ List.mem_cons_self
    · exact hts w (List.mem_filter.mp hw).1
  obtain ⟨k, o, h1, h2, h3, hR⟩ := hM p e ha hc hk s m #[.ref b] below hf happ2 ⟨rfl, hpre⟩ trivial
  refine ⟨k, o, h1, h2, h3, ?_⟩
  rcases hR with ⟨⟨⟨v, h', e1, e2, -⟩, -⟩, L, ⟨f1, f2, f3⟩, f4⟩ | ⟨q, e0, E, ce, L, ⟨⟨h', hx, -⟩, -⟩, -⟩
  · refine ⟨by rw [e1, e2], f1, f2, ?_⟩
    obtain ⟨g1, g2, g3, g4, g5, g6⟩ := f3
    refine ⟨g1, g2, g3, g4, g5, fun a c hac => ?_⟩
    obtain ⟨c', j1, j2, j3, j4⟩ := g6 a c hac
    refine ⟨c', j1, j2, j3, fun i _ => j4 i (fun hm => ?_)⟩
    rcases f4 _ hm with ⟨k9, e9, h9⟩ | h9
    · cases h9
    · have h8 := (Array.getElem?_eq_some_iff.mp hac).1
      have h7 : s.heap.size ≤ a := h9
      omega
  · exact hx.elim
theorem lw_pre_spec {args : Array Value} {s : State} (h : (Jvm.Cond.and given_1 narrow_1).before args s = true) (hr : rest_1_c.before args s = true) : ∃ (b : Addr) (xs : List Int32), lw_P b xs args s := by
  have hs := flat_of_before _ h
  have hq := flat_of_before _ hr
  have hc : (Cond.count 1).before args s = true := n_cond h 0 rfl
  have harr : (Cond.arrayOf (.arg 0) .int).before args s = true := n_cond h 2 rfl
  have hle : (Cond.le (.length (.arg 0)) (.int 260)).before args s = true := n_cond h 3 rfl
  have hlen : (Cond.isInt (.length (.arg 0))).before args s = true := hq _ (by decide +kernel)
  have hall : (Cond.all (.arg 0) (.isInt (.elem (.arg 0) (.index 0)))).before args s = true := hq _ (by decide +kernel)
  obtain ⟨b, xs, hb, hx⟩ := State.ints_of_pre rfl harr hlen hall
  have hsm : xs.length < 2 ^ 31 := hx.choose_spec.2.2.2
  have hev : (Term.length (.arg 0)).eval args s none [] s = some (.int xs.length.toInt32) := hx.length_eval hb
  have hv := Cond.le_ints hev (show (Term.int 260).eval args s none [] s = some (.int 260) from rfl)
  have hd : xs.length.toInt32 ≤ 260 := by
    simpa [Cond.before, Cond.holds, hv] using hle
  have hN : xs.length ≤ 260 := (Int32.ofNat_le_ofNat hsm (by decide)).mp (show Int32.ofNat xs.length ≤ Int32.ofNat 260 from hd)
  exact ⟨b, xs, Cond.one_arg hc (show args[0]? = some (.ref b) from hb), hx, hN, h⟩
theorem lw_comes (hp : PureAll) (l : Launch) (hflags : l.flags = flags0) : Comes l x (Jvm.Cond.code x code maxLocals ret :: tables_1) room_1 (fun tb e args s => Calls_1 tb e args s ∧ rest_1 tb e args s ∧ Pre_1 tb e args s)
    (fun _ _ args s o t => lw_Q args s o t) := by
  intro p e ha hc hk s m args below hf hfit hheap happ hpre
  obtain ⟨b, xs, hP⟩ := lw_pre_spec hpre.2.2 hpre.2.1
  obtain ⟨k, o, h1, h2, h3, hQ⟩ := lw_walk hp l hflags b xs p e ha hc hk s m args below hf ((Spec.applies_iff_loose hf).mp happ).1 hP trivial
  exact ⟨k, o, h1, h2, h3, hQ⟩
theorem lw_frame {s t : State} {o : Outcome} {args : Array Value} (h : Framed s o t [] 600130 7301080) :
    Framed s o t (fieldLocs frame_1_writes args s ++ arrayLocs frame_1_arrays args s ++ staticLocs frame_1_statics s) 600130 7301080 := h
theorem lw_limb (hp : PureAll) (L : Cond) (hL : ∀ (args : Array Value) (s t : State), L.after args s (.returned (some (.int 1))) t = true) :
    ArmFor flags0 classFile x code maxLocals ret World_1 tables_1 room_1 Calls_1 rest_1 Pre_1
      (fun tb e a s o t => postC L tb e a s o t ∧ Framed s o t (fieldLocs frame_1_writes a s ++ arrayLocs frame_1_arrays a s ++ staticLocs frame_1_statics s) 600130 7301080) := by
  intro l hflags _ _ p e ha hc hk s m args below hf hfit hheap happ hpre
  obtain ⟨k, o, h1, h2, h3, rfl, hF⟩ := lw_comes hp l hflags p e ha hc hk s m args below hf hfit hheap happ hpre
  exact ⟨k, _, h1, h2, h3, hL args s _, lw_frame hF⟩
theorem vc_of (hp : PureAll) : Claimed_1_1 ∧ Claimed_1_2 := ⟨lw_limb hp limb_1_1 (fun args s t => by simp [limb_1_1, Cond.after, Cond.holds, Cond.value]), lw_limb hp limb_1_2 (fun args s t => Cond.after_iff.mpr (by
  first | (rw [show limb_1_2 = Cond.eq .result (.int 1) from rfl, Cond.eq_ints (x := 1) (y := 1) rfl rfl]; simp; done) | (simp [limb_1_2, Cond.value, Term.eval]; done)))⟩
