/-! THE X LAYER: the heap as a function from addresses to things; a contract (XMet) and a judgement inside a body (XA) that hide the machine. Each row goes over one instruction. -/
def xg : List Cond := lw_tbl.filter goodWord
theorem xg_in {w : Cond} (h : w ∈ lw_tbl) (hg : goodWord w = true) : w ∈ xg := List.mem_filter.mpr ⟨h, hg⟩
theorem xg_good {w : Cond} (h : w ∈ xg) : (w.onTables && w.keeps) = true ∨ ∃ ty, w = .arrayClass ty := good_of_word (List.mem_filter.mp h).2
abbrev XC : Type := (Nat × vp_A) ⊕ (Nat × List Value)
abbrev XH : Type := Nat → Option XC
def xup (h : XH) (a : Nat) (e : XC) : XH := fun b => if b = a then some e else h b
abbrev xI (t n : Nat) (f : Nat → Int32) : XC := .inl (t, n, .inl f)
abbrev xL (n : Nat) (f : Nat → Int64) : XC := .inl (1, n, .inr (.inl f))
abbrev xR (n : Nat) (f : Nat → Option Nat) : XC := .inl (4, n, .inr (.inr (.inr (.inr f))))
abbrev xO (ci : Nat) (fs : List Value) : XC := .inr (ci, fs)
def xe (cA : Nat → ClassId) : XC → va_E := fun x => match x with
  | .inl y => .inl (cA y.1, y.2)
  | .inr y => .inr y
def xtys (cA : Nat → ClassId) : List (ClassId × FieldType) := [(cA 0, .int), (cA 1, .int), (cA 2, .char), (cA 3, .boolean), (cA 4, .object RX10)]
def xCov (cA : Nat → ClassId) (h : XH) (ws : va_W) : Prop := ∀ (a : Nat) (e : XC), h a = some e → ∃ k : Nat, ws[k]? = some (a, xe cA e)
theorem xup_s {h : XH} {a : Nat} {e : XC} : xup h a e a = some e := if_pos rfl
theorem xup_n {h : XH} {a b : Nat} {e : XC} (n : b ≠ a) : xup h a e b = h b := if_neg n
/-- what stands outside the world: statics and String constants that nobody writes, and the script -/
abbrev XS : Type := Nat × Nat × (Nat → Int32)
def xE (S : XS) (adK adV : Nat → Nat) (A : Nat → Prop) (U : State) (H : Heap) : Prop :=
  vx_Zq Bundle.tN "UNASSIGNED_STACK" Bundle.steD A U H ∧ vx_Zq Bundle.tN "SUPPRESSED_SENTINEL" Bundle.listD A U H ∧ vk_S xN xlen xbyt adK adV A U H ∧ va_Z "java/lang/String" "COMPACT_STRINGS" "Z" (.int 1) A U H ∧ va_Zq "jdk/internal/util/Preconditions" "SIOOBE_FORMATTER" "Ljava/util/function/BiFunction;" A U H ∧ va_X S.1 S.2.1 S.2.2 U H ∧ S.1 < H.size ∧ ¬ A S.1
theorem xE.moved {S : XS} {adK adV : Nat → Nat} {A : Nat → Prop} {u U : State} {H : Heap} (hvm : u.vm.Alike U.vm) (h : xE S adK adV A u H) : xE S adK adV A U H :=
  ⟨h.1.moved hvm, h.2.1.moved hvm, h.2.2.1.moved hvm, h.2.2.2.1.moved hvm, h.2.2.2.2.1.moved hvm, h.2.2.2.2.2.1.moved hvm, h.2.2.2.2.2.2.1, h.2.2.2.2.2.2.2⟩
theorem xE.kept {S : XS} {adK adV : Nat → Nat} {A : Nat → Prop} {U : State} {H H1 : Heap} (h : xE S adK adV A U H) (hz : H.size ≤ H1.size) (hq : ∀ a : Nat, a < H.size → ¬ A a → H1[a]? = H[a]?) : xE S adK adV A U H1 :=
  ⟨h.1.kept hq, h.2.1.kept hq, h.2.2.1.kept hq, h.2.2.2.1.kept hq, h.2.2.2.2.1.kept hq, h.2.2.2.2.2.1.kept (hq _ h.2.2.2.2.2.2.1 h.2.2.2.2.2.2.2), Nat.lt_of_lt_of_le h.2.2.2.2.2.2.1 hz, h.2.2.2.2.2.2.2⟩
theorem xE.narrow {S : XS} {adK adV : Nat → Nat} {A B : Nat → Prop} {U : State} {H : Heap} (h : xE S adK adV A U H) (hAB : ∀ q, B q → A q) : xE S adK adV B U H :=
  ⟨h.1.narrow hAB, h.2.1.narrow hAB, h.2.2.1.narrow hAB, h.2.2.2.1.narrow hAB, h.2.2.2.2.1.narrow hAB, h.2.2.2.2.2.1, h.2.2.2.2.2.2.1, fun z => h.2.2.2.2.2.2.2 (hAB _ z)⟩
/-- words that speak of the tables, but do not ride with calls by themselves -/
def xisN (w : Cond) : Bool := match w with
  | .methodLinkNest .. => true
  | .castable .. => true
  | .declares _ => true
  | _ => false
/-- what is thrown: none is another -/
def xncs : List (String × String) := [("java/lang/IllegalArgumentException", "java/lang/IllegalStateException"), ("java/lang/IndexOutOfBoundsException", "java/lang/IllegalStateException")]
def xT (adK : Nat → Nat) (U : State) : Prop := (∀ w ∈ lw_tbl, xisN w = true → va_Nw w U) ∧ (∀ q ∈ xstr, vk_R q.1 q.2.1 q.2.2.1 (adK q.2.2.2) U) ∧ va_AO RX10 U ∧ (∀ q ∈ xncs, va_Nc q.1 q.2 U)
theorem xT.warm {adK : Nat → Nat} {s U : State} (hW : s.WarmedH U.vm) (h : xT adK s) : xT adK U := by
  refine ⟨fun w hw hn => ?_, fun q hq => vk_R.warm hW (h.2.1 q hq), va_AO.moved hW.alike h.2.2.1, fun q hq => (h.2.2.2 q hq).moved hW.alike⟩
  have h1 := h.1 w hw hn
  cases w <;> first | exact va_Nw.warmM hW h1 | exact va_Nw.warmC hW h1 | exact va_Nw.warmD hW h1 | cases hn
theorem xT.same {adK : Nat → Nat} {s U : State} (hv : U.vm = s.vm) (h : xT adK s) : xT adK U := by
  refine ⟨fun w hw hn => ?_, fun q hq => vk_R.same hv (h.2.1 q hq), va_AO.moved (hv ▸ Vm.Alike.refl _) h.2.2.1, fun q hq => (h.2.2.2 q hq).moved (hv ▸ Vm.Alike.refl _)⟩
  have h1 := h.1 w hw hn
  cases w <;> first | exact va_Nw.same rfl hv.symm h1 | cases hn
def xrm (d mc ms : Nat) : Room := { frames := d + 12, cells := mc, slots := ms, locals := 41 * d + 524 }
def xcode (y : MethodName) (cc : ByteArray) (nL : Nat) (ret : Option FieldType) (hh : List (Nat × Nat × Nat × Nat)) : Cond := match hh with
  | [] => .code y cc nL ret
  | _ :: _ => .codeWith y cc nL ret hh
abbrev xw (y : MethodName) (cc : ByteArray) (nL : Nat) (ret : Option FieldType) (hh : List (Nat × Nat × Nat × Nat)) : List Cond := xcode y cc nL ret hh :: xg
abbrev XZ : Type := XS × (Nat → Nat) × (Nat → Nat)
def xPre (Z : XZ) (D : va_G) (cA : Nat → ClassId) (h : XH) (ws : va_W) (sz : Nat) (U : State) : Prop :=
  U.heap.size = sz ∧ va_P D vwCl ws U.heap ∧ va_D (fun _ => True) ws ∧ va_K D vwCl (xtys cA) U ∧ xCov cA h ws ∧ xE Z.1 Z.2.1 Z.2.2 (va_A ws sz) U U.heap ∧ xT Z.2.1 U
def xPost (D : va_G) (cA : Nat → ClassId) (ws : va_W) (sz : Nat) (h : XH) (t : State) : Prop :=
  ∃ ws' : va_W, va_P D vwCl ws' t.heap ∧ va_D (va_A ws sz) ws' ∧ va_K D vwCl (xtys cA) t ∧ xCov cA h ws'
def xQ (D : va_G) (cA : Nat → ClassId) (ws : va_W) (sz : Nat) (Q : Option Value → XH → Prop) : Array Value → State → Outcome → State → Prop := fun _ st oc t =>
  (∃ (v : Option Value) (h : XH), oc = .returned v ∧ Q v h ∧ xPost D cA ws sz h t) ∧ va_F (va_A ws sz) st t
def xX (D : va_G) (cA : Nat → ClassId) (ws : va_W) (sz : Nat) (X : String → XH → Prop) : String → State → State → Prop := fun E st t =>
  (∃ h : XH, X E h ∧ xPost D cA ws sz h t) ∧ va_F (va_A ws sz) st t
/-- a method's contract for one heap and one row of arguments: it returns with Q, or throws with X -/
def XMet (l : Launch) (Z : XZ) (y : MethodName) (cc : ByteArray) (nL : Nat) (ret : Option FieldType) (hh : List (Nat × Nat × Nat × Nat)) (d mc ms : Nat) (av : List Value) (h : XH) (Q : Option Value → XH → Prop) (X : String → XH → Prop) : Prop :=
  l.stackTraces = false → ∀ (D : va_G) (cA : Nat → ClassId) (ws : va_W) (sz : Nat),
    vx_Met l y (xw y cc nL ret hh) (xrm d mc ms) (va_Pc av (xPre Z D cA h ws sz)) (xQ D cA ws sz Q) (xX D cA ws sz X) mc ms (va_A ws sz)
/-- what holds all through a body -/
def xCx (l : Launch) (Z : XZ) (D : va_G) (cA : Nat → ClassId) (ws0 : va_W) (y : MethodName) (cc : ByteArray) (nL : Nat) (ret : Option FieldType) (hh : List (Nat × Nat × Nat × Nat)) (p : Program) (s : State) (m : MethodId) (args : Array Value) (meth : Method) (c : Code) : Prop :=
  p.tables.exec = Jvm.exec ∧ c.code = cc ∧ c.maxLocals = nL ∧ meth.sig.returnType = ret ∧ s.vm.findClass y.cls = some m.cls ∧ (∀ w ∈ xw y cc nL ret hh, w.before args s = true) ∧ meth.locks = false ∧ c.exceptionTable.toList = tableOf hh ∧ va_K D vwCl (xtys cA) s ∧ xE Z.1 Z.2.1 Z.2.2 (va_A ws0 s.heap.size) s s.heap ∧ xT Z.2.1 s ∧ l.stackTraces = false ∧ meth.name = y.name
def XA (l : Launch) (Z : XZ) (y : MethodName) (cc : ByteArray) (nL : Nat) (ret : Option FieldType) (hh : List (Nat × Nat × Nat × Nat)) (d mc ms : Nat) (Q : Option Value → XH → Prop) (X : String → XH → Prop) (pc : Nat) (lv : List (Nat × Value)) (st : List Value) (h : XH) (nc ns : Nat) : Prop :=
  ∀ (D : va_G) (cA : Nat → ClassId) (ws0 : va_W) (p : Program) (e : Env) (s : State) (m : MethodId) (args : Array Value) (below : List Frame) (meth : Method) (c : Code) (H : Heap) (locs : List Loc) (ws : va_W) (ls : Array Slot),
    xCx l Z D cA ws0 y cc nL ret hh p s m args meth c → va_P D vwCl ws H → va_D (va_A ws0 s.heap.size) ws → xCov cA h ws → va_S (va_A ws0 s.heap.size) s.heap H locs → lv_has ls nL lv →
    W p l e (xrm d mc ms) s m args below meth c H locs nc ns (vx_MQ below (xQ D cA ws0 s.heap.size Q) (xX D cA ws0 s.heap.size X) args s mc ms (va_A ws0 s.heap.size)) (F0 m pc ls st)
/-- q of the class E has been thrown over this body's frame -/
def XT (l : Launch) (Z : XZ) (y : MethodName) (cc : ByteArray) (nL : Nat) (ret : Option FieldType) (hh : List (Nat × Nat × Nat × Nat)) (d mc ms : Nat) (Q : Option Value → XH → Prop) (X : String → XH → Prop) (pc : Nat) (lv : List (Nat × Value)) (rest : List Value) (h : XH) (E : String) (nc ns : Nat) : Prop :=
  ∀ (D : va_G) (cA : Nat → ClassId) (ws0 : va_W) (p : Program) (e : Env) (s : State) (m : MethodId) (args : Array Value) (below : List Frame) (meth : Method) (c : Code) (H : Heap) (locs : List Loc) (ws : va_W) (ls : Array Slot) (q : Addr) (ce : Cell),
    xCx l Z D cA ws0 y cc nL ret hh p s m args meth c → va_P D vwCl ws H → va_D (va_A ws0 s.heap.size) ws → xCov cA h ws → va_S (va_A ws0 s.heap.size) s.heap H locs → lv_has ls nL lv → H[q]? = some ce → ce.vm = .none → s.vm.findClass E = some ce.cls →
    vx_W p l e (xrm d mc ms) s m args below meth c H locs nc ns (vx_MQ below (xQ D cA ws0 s.heap.size Q) (xX D cA ws0 s.heap.size X) args s mc ms (va_A ws0 s.heap.size)) (F0 m pc ls rest) q
theorem xPre_blind {Z : XZ} {D : va_G} {cA : Nat → ClassId} {h : XH} {ws : va_W} {sz : Nat} {av : List Value} : FrameBlind (va_Pc av (xPre Z D cA h ws sz)) := by
  intro a U g mk q
  obtain ⟨h0, h1, h2, h3, h4, h5, h6, h7⟩ := q
  exact ⟨h0, h1, h2, h3, va_K.moved (u := U) (U := U.calling g mk a) (Vm.Alike.refl U.vm) h4, h5, xE.moved (u := U) (U := U.calling g mk a) (Vm.Alike.refl U.vm) h6, xT.same (s := U) (U := U.calling g mk a) rfl h7⟩
theorem XMet.of {l : Launch} {Z : XZ} {y : MethodName} {cc : ByteArray} {nL : Nat} {ret : Option FieldType} {d mc ms : Nat} {av : List Value} {h : XH} {Q : Option Value → XH → Prop} {X : String → XH → Prop} (hy : plainName y.cls = true) (hn : (lg_sl av).length ≤ nL)
    (body : XA l Z y cc nL ret [] d mc ms Q X 0 (lv_args 0 av) [] h 0 0) : XMet l Z y cc nL ret [] d mc ms av h Q X := by
  intro hl D cA ws sz
  refine vx_ofW (cc := cc) (maxL := nL) (ret := ret) hy rfl ?_
  intro p e s m args below meth c s₁ B hml htab hv
  obtain ⟨rfl, rfl, hP, hD, hK, hC, hE, hT⟩ := hv
  rw [lg_entry_eq]
  exact body D cA ws p e s m _ below meth c s.heap [] ws _ ⟨B.exec, B.bytes, hml, B.returns, findClass_of_methodNamed B.named, atoms_spec (ws := xw y cc nL ret []) B.pre, B.notSynchronized, List.eq_nil_iff_forall_not_mem.mpr htab, hK, hE, hT, hl, (name_of_methodNamed B.named B.method).1⟩ hP hD.self hC va_S.rf (lv_entry av hn)
theorem XMet.post {l : Launch} {Z : XZ} {y : MethodName} {cc : ByteArray} {nL : Nat} {ret : Option FieldType} {hh : List (Nat × Nat × Nat × Nat)} {d mc ms : Nat} {av : List Value} {h : XH} {Q Q' : Option Value → XH → Prop} {X X' : String → XH → Prop} (hM : XMet l Z y cc nL ret hh d mc ms av h Q X) (hQ : ∀ v h', Q v h' → Q' v h') (hX : ∀ E h', X E h' → X' E h') : XMet l Z y cc nL ret hh d mc ms av h Q' X' := by
  intro hl D cA ws sz p e ha hc hk s m args below hf happ hP hK
  obtain ⟨n, o, h1, h2, h3, hR⟩ := hM hl D cA ws sz p e ha hc hk s m args below hf happ hP hK
  refine ⟨n, o, h1, h2, h3, ?_⟩
  rcases hR with ⟨⟨⟨v, h', e1, e2, e3⟩, hF⟩, hL⟩ | ⟨q, e0, E, ce, L, ⟨⟨h', hx, hp⟩, hF⟩, r⟩
  · exact Or.inl ⟨⟨⟨v, h', e1, hQ _ _ e2, e3⟩, hF⟩, hL⟩
  · exact Or.inr ⟨q, e0, E, ce, L, ⟨⟨h', hX _ _ hx, hp⟩, hF⟩, r⟩
/-- a body with a table of its own -/
theorem XMet.ofH {l : Launch} {Z : XZ} {y : MethodName} {cc : ByteArray} {nL : Nat} {ret : Option FieldType} {q0 : Nat × Nat × Nat × Nat} {hr : List (Nat × Nat × Nat × Nat)} {d mc ms : Nat} {av : List Value} {h : XH} {Q : Option Value → XH → Prop} {X : String → XH → Prop} (hy : plainName y.cls = true) (hn : (lg_sl av).length ≤ nL)
    (body : XA l Z y cc nL ret (q0 :: hr) d mc ms Q X 0 (lv_args 0 av) [] h 0 0) : XMet l Z y cc nL ret (q0 :: hr) d mc ms av h Q X := by
  intro hl D cA ws sz
  refine vx_ofWH (cc := cc) (maxL := nL) (ret := ret) (hh := q0 :: hr) hy rfl ?_
  intro p e s m args below meth c s₁ B hml hv
  obtain ⟨rfl, rfl, hP, hD, hK, hC, hE, hT⟩ := hv
  rw [lg_entry_eq]
  have hpre := atoms_spec (ws := xw y cc nL ret (q0 :: hr)) B.pre
  exact body D cA ws p e s m _ below meth c s.heap [] ws _ ⟨B.exec, B.bytes, hml, B.returns, findClass_of_methodNamed B.named, hpre, B.notSynchronized, vx_table (x := y) B (hpre _ List.mem_cons_self), hK, hE, hT, hl, (name_of_methodNamed B.named B.method).1⟩ hP hD.self hC va_S.rf (lv_entry av hn)
section XR
variable {l : Launch} {Z : XZ} {y : MethodName} {cc : ByteArray} {nL : Nat} {ret : Option FieldType} {hh : List (Nat × Nat × Nat × Nat)} {d mc ms : Nat} {Q : Option Value → XH → Prop} {X : String → XH → Prop} {pc : Nat} {lv lv' : List (Nat × Value)} {st rest : List Value} {h : XH} {nc ns : Nat}

theorem XA.iconst {n : Int} {v : Int32} (hdg : decode cc pc = .ok (.iconst n, 1)) (hv : Int32.ofInt n = v) (k : XA l Z y cc nL ret hh d mc ms Q X (pc + 1) lv (.int v :: st) h nc ns) : XA l Z y cc nL ret hh d mc ms Q X pc lv st h nc ns := by
  intro D cA ws0 p e s m args below meth c H locs ws ls C hP hD hC hS hl
  exact lv_iconst C.1 C.2.1 hdg hv (k D cA ws0 p e s m args below meth c H locs ws ls C hP hD hC hS hl)
theorem XA.bipush {n : Int} {v : Int32} (hdg : decode cc pc = .ok (.bipush n, 2)) (hv : (Int8.ofInt n).toInt32 = v) (k : XA l Z y cc nL ret hh d mc ms Q X (pc + 2) lv (.int v :: st) h nc ns) : XA l Z y cc nL ret hh d mc ms Q X pc lv st h nc ns := by
  intro D cA ws0 p e s m args below meth c H locs ws ls C hP hD hC hS hl
  exact lv_bipush C.1 C.2.1 hdg hv (k D cA ws0 p e s m args below meth c H locs ws ls C hP hD hC hS hl)
theorem XA.sipush {n : Int} {v : Int32} (hdg : decode cc pc = .ok (.sipush n, 3)) (hv : (Int16.ofInt n).toInt32 = v) (k : XA l Z y cc nL ret hh d mc ms Q X (pc + 3) lv (.int v :: st) h nc ns) : XA l Z y cc nL ret hh d mc ms Q X pc lv st h nc ns := by
  intro D cA ws0 p e s m args below meth c H locs ws ls C hP hD hC hS hl
  exact lv_sipush C.1 C.2.1 hdg hv (k D cA ws0 p e s m args below meth c H locs ws ls C hP hD hC hS hl)
theorem XA.lconst {n : Fin 2} {v : Int64} (hdg : decode cc pc = .ok (.lconst n, 1)) (hv : Int64.ofNat (n : Nat) = v) (k : XA l Z y cc nL ret hh d mc ms Q X (pc + 1) lv (.long v :: st) h nc ns) : XA l Z y cc nL ret hh d mc ms Q X pc lv st h nc ns := by
  intro D cA ws0 p e s m args below meth c H locs ws ls C hP hD hC hS hl
  exact lv_lconst C.1 C.2.1 hdg hv (k D cA ws0 p e s m args below meth c H locs ws ls C hP hD hC hS hl)
theorem XA.null (hdg : decode cc pc = .ok (.aconst_null, 1)) (k : XA l Z y cc nL ret hh d mc ms Q X (pc + 1) lv (.null :: st) h nc ns) : XA l Z y cc nL ret hh d mc ms Q X pc lv st h nc ns := by
  intro D cA ws0 p e s m args below meth c H locs ws ls C hP hD hC hS hl
  exact lv_null C.1 C.2.1 hdg (k D cA ws0 p e s m args below meth c H locs ws ls C hP hD hC hS hl)
theorem XA.ldc {index : Nat} {v : Int32} (hw : Cond.constant y.cls index v ∈ xg) (hdg : decode cc pc = .ok (.ldc index, 2)) (k : XA l Z y cc nL ret hh d mc ms Q X (pc + 2) lv (.int v :: st) h nc ns) : XA l Z y cc nL ret hh d mc ms Q X pc lv st h nc ns := by
  intro D cA ws0 p e s m args below meth c H locs ws ls C hP hD hC hS hl
  exact lv_ldc C.1 C.2.1 C.2.2.2.2.1 (C.2.2.2.2.2.1 _ (List.mem_cons_of_mem _ hw)) hdg (k D cA ws0 p e s m args below meth c H locs ws ls C hP hD hC hS hl)
theorem XA.ldcw {index : Nat} {v : Int32} (hw : Cond.constant y.cls index v ∈ xg) (hdg : decode cc pc = .ok (.ldc_w index, 3)) (k : XA l Z y cc nL ret hh d mc ms Q X (pc + 3) lv (.int v :: st) h nc ns) : XA l Z y cc nL ret hh d mc ms Q X pc lv st h nc ns := by
  intro D cA ws0 p e s m args below meth c H locs ws ls C hP hD hC hS hl
  exact lv_ldcw C.1 C.2.1 C.2.2.2.2.1 (C.2.2.2.2.2.1 _ (List.mem_cons_of_mem _ hw)) hdg (k D cA ws0 p e s m args below meth c H locs ws ls C hP hD hC hS hl)
theorem XA.ldc2 {index : Nat} {v : Int64} (hw : Cond.constantLong y.cls index v ∈ xg) (hdg : decode cc pc = .ok (.ldc2_w index, 3)) (k : XA l Z y cc nL ret hh d mc ms Q X (pc + 3) lv (.long v :: st) h nc ns) : XA l Z y cc nL ret hh d mc ms Q X pc lv st h nc ns := by
  intro D cA ws0 p e s m args below meth c H locs ws ls C hP hD hC hS hl
  exact lv_ldc2 C.1 C.2.1 C.2.2.2.2.1 (C.2.2.2.2.2.1 _ (List.mem_cons_of_mem _ hw)) hdg (k D cA ws0 p e s m args below meth c H locs ws ls C hP hD hC hS hl)
def xlk (lv : List (Nat × Value)) (i : Nat) : Option Value := match lv with
  | [] => none
  | q :: r => if q.1 = i then some q.2 else xlk r i
theorem xlk_mem {i : Nat} {v : Value} : ∀ {lv : List (Nat × Value)}, xlk lv i = some v → (i, v) ∈ lv
  | [], h => by cases h
  | q :: r, h => by
    unfold xlk at h
    split at h
    · rename_i e
      cases h
      subst e
      exact List.mem_cons_self
    · exact List.mem_cons_of_mem _ (xlk_mem h)
theorem XA.iload_n {k0 : Fin 4} {x : Int32} (hdg : decode cc pc = .ok (.iload_n k0, 1)) (hv : xlk lv (k0 : Nat) = some (.int x)) (k : XA l Z y cc nL ret hh d mc ms Q X (pc + 1) lv (.int x :: st) h nc ns) : XA l Z y cc nL ret hh d mc ms Q X pc lv st h nc ns := by
  intro D cA ws0 p e s m args below meth c H locs ws ls C hP hD hC hS hl
  exact lv_iload_n C.1 C.2.1 hdg rfl (hl.2.2 _ (xlk_mem hv)) (k D cA ws0 p e s m args below meth c H locs ws ls C hP hD hC hS hl)
theorem XA.iload {i : Nat} {x : Int32} (hdg : decode cc pc = .ok (.iload i, 2)) (hv : xlk lv i = some (.int x)) (k : XA l Z y cc nL ret hh d mc ms Q X (pc + 2) lv (.int x :: st) h nc ns) : XA l Z y cc nL ret hh d mc ms Q X pc lv st h nc ns := by
  intro D cA ws0 p e s m args below meth c H locs ws ls C hP hD hC hS hl
  exact lv_iload C.1 C.2.1 hdg (hl.2.2 _ (xlk_mem hv)) (k D cA ws0 p e s m args below meth c H locs ws ls C hP hD hC hS hl)
theorem XA.lload_n {k0 : Fin 4} {x : Int64} (hdg : decode cc pc = .ok (.lload_n k0, 1)) (hv : xlk lv (k0 : Nat) = some (.long x)) (k : XA l Z y cc nL ret hh d mc ms Q X (pc + 1) lv (.long x :: st) h nc ns) : XA l Z y cc nL ret hh d mc ms Q X pc lv st h nc ns := by
  intro D cA ws0 p e s m args below meth c H locs ws ls C hP hD hC hS hl
  exact lv_lload_n C.1 C.2.1 hdg rfl (hl.2.2 _ (xlk_mem hv)) (k D cA ws0 p e s m args below meth c H locs ws ls C hP hD hC hS hl)
theorem XA.lload {i : Nat} {x : Int64} (hdg : decode cc pc = .ok (.lload i, 2)) (hv : xlk lv i = some (.long x)) (k : XA l Z y cc nL ret hh d mc ms Q X (pc + 2) lv (.long x :: st) h nc ns) : XA l Z y cc nL ret hh d mc ms Q X pc lv st h nc ns := by
  intro D cA ws0 p e s m args below meth c H locs ws ls C hP hD hC hS hl
  exact lv_lload C.1 C.2.1 hdg (hl.2.2 _ (xlk_mem hv)) (k D cA ws0 p e s m args below meth c H locs ws ls C hP hD hC hS hl)
theorem XA.aload_n {k0 : Fin 4} {x : Nat} (hdg : decode cc pc = .ok (.aload_n k0, 1)) (hv : xlk lv (k0 : Nat) = some (.ref x)) (k : XA l Z y cc nL ret hh d mc ms Q X (pc + 1) lv (.ref x :: st) h nc ns) : XA l Z y cc nL ret hh d mc ms Q X pc lv st h nc ns := by
  intro D cA ws0 p e s m args below meth c H locs ws ls C hP hD hC hS hl
  exact lv_aload_n C.1 C.2.1 hdg rfl (hl.2.2 _ (xlk_mem hv)) (k D cA ws0 p e s m args below meth c H locs ws ls C hP hD hC hS hl)
theorem XA.aload {i : Nat} {x : Nat} (hdg : decode cc pc = .ok (.aload i, 2)) (hv : xlk lv i = some (.ref x)) (k : XA l Z y cc nL ret hh d mc ms Q X (pc + 2) lv (.ref x :: st) h nc ns) : XA l Z y cc nL ret hh d mc ms Q X pc lv st h nc ns := by
  intro D cA ws0 p e s m args below meth c H locs ws ls C hP hD hC hS hl
  exact lv_aload C.1 C.2.1 hdg (hl.2.2 _ (xlk_mem hv)) (k D cA ws0 p e s m args below meth c H locs ws ls C hP hD hC hS hl)
theorem XA.aload_nN {k0 : Fin 4} (hdg : decode cc pc = .ok (.aload_n k0, 1)) (hv : xlk lv (k0 : Nat) = some .null) (k : XA l Z y cc nL ret hh d mc ms Q X (pc + 1) lv (.null :: st) h nc ns) : XA l Z y cc nL ret hh d mc ms Q X pc lv st h nc ns := by
  intro D cA ws0 p e s m args below meth c H locs ws ls C hP hD hC hS hl
  exact lv_aload_nN C.1 C.2.1 hdg rfl (hl.2.2 _ (xlk_mem hv)) (k D cA ws0 p e s m args below meth c H locs ws ls C hP hD hC hS hl)
theorem XA.aloadN {i : Nat} (hdg : decode cc pc = .ok (.aload i, 2)) (hv : xlk lv i = some .null) (k : XA l Z y cc nL ret hh d mc ms Q X (pc + 2) lv (.null :: st) h nc ns) : XA l Z y cc nL ret hh d mc ms Q X pc lv st h nc ns := by
  intro D cA ws0 p e s m args below meth c H locs ws ls C hP hD hC hS hl
  exact lv_aloadN C.1 C.2.1 hdg (hl.2.2 _ (xlk_mem hv)) (k D cA ws0 p e s m args below meth c H locs ws ls C hP hD hC hS hl)
abbrev xs1 (lv : List (Nat × Value)) (i : Nat) (v : Value) : List (Nat × Value) := (i, v) :: lv.filter (fun q => !(q.1 == i) && !(q.1 + 1 == i && q.2.category == 2))
abbrev xs2 (lv : List (Nat × Value)) (i : Nat) (v : Value) : List (Nat × Value) := (i, v) :: lv.filter (fun q => !(q.1 == i) && (!(q.1 == i + 1) && !(q.1 + 1 == i && q.2.category == 2)))
theorem XA.istore_n {k0 : Fin 4} {x : Int32} (hdg : decode cc pc = .ok (.istore_n k0, 1)) (hn : (k0 : Nat) < nL) (hv : xs1 lv (k0 : Nat) (.int x) = lv') (k : XA l Z y cc nL ret hh d mc ms Q X (pc + 1) lv' st h nc ns) : XA l Z y cc nL ret hh d mc ms Q X pc lv (.int x :: st) h nc ns := by
  intro D cA ws0 p e s m args below meth c H locs ws ls C hP hD hC hS hl
  exact lv_istore_n C.1 C.2.1 hdg rfl hl hn hv (fun ls' hl' => k D cA ws0 p e s m args below meth c H locs ws ls' C hP hD hC hS hl')
theorem XA.istore {i : Nat} {x : Int32} (hdg : decode cc pc = .ok (.istore i, 2)) (hn : i < nL) (hv : xs1 lv i (.int x) = lv') (k : XA l Z y cc nL ret hh d mc ms Q X (pc + 2) lv' st h nc ns) : XA l Z y cc nL ret hh d mc ms Q X pc lv (.int x :: st) h nc ns := by
  intro D cA ws0 p e s m args below meth c H locs ws ls C hP hD hC hS hl
  exact lv_istore C.1 C.2.1 hdg hl hn hv (fun ls' hl' => k D cA ws0 p e s m args below meth c H locs ws ls' C hP hD hC hS hl')
theorem XA.lstore_n {k0 : Fin 4} {x : Int64} (hdg : decode cc pc = .ok (.lstore_n k0, 1)) (hn : (k0 : Nat) + 1 < nL) (hv : xs2 lv (k0 : Nat) (.long x) = lv') (k : XA l Z y cc nL ret hh d mc ms Q X (pc + 1) lv' st h nc ns) : XA l Z y cc nL ret hh d mc ms Q X pc lv (.long x :: st) h nc ns := by
  intro D cA ws0 p e s m args below meth c H locs ws ls C hP hD hC hS hl
  exact lv_lstore_n C.1 C.2.1 hdg rfl hl hn hv (fun ls' hl' => k D cA ws0 p e s m args below meth c H locs ws ls' C hP hD hC hS hl')
theorem XA.lstore {i : Nat} {x : Int64} (hdg : decode cc pc = .ok (.lstore i, 2)) (hn : i + 1 < nL) (hv : xs2 lv i (.long x) = lv') (k : XA l Z y cc nL ret hh d mc ms Q X (pc + 2) lv' st h nc ns) : XA l Z y cc nL ret hh d mc ms Q X pc lv (.long x :: st) h nc ns := by
  intro D cA ws0 p e s m args below meth c H locs ws ls C hP hD hC hS hl
  exact lv_lstore C.1 C.2.1 hdg hl hn hv (fun ls' hl' => k D cA ws0 p e s m args below meth c H locs ws ls' C hP hD hC hS hl')
theorem XA.astore_n {k0 : Fin 4} {x : Nat} (hdg : decode cc pc = .ok (.astore_n k0, 1)) (hn : (k0 : Nat) < nL) (hv : xs1 lv (k0 : Nat) (.ref x) = lv') (k : XA l Z y cc nL ret hh d mc ms Q X (pc + 1) lv' st h nc ns) : XA l Z y cc nL ret hh d mc ms Q X pc lv (.ref x :: st) h nc ns := by
  intro D cA ws0 p e s m args below meth c H locs ws ls C hP hD hC hS hl
  exact lv_astore_n C.1 C.2.1 hdg rfl hl hn hv (fun ls' hl' => k D cA ws0 p e s m args below meth c H locs ws ls' C hP hD hC hS hl')
theorem XA.astore {i : Nat} {x : Nat} (hdg : decode cc pc = .ok (.astore i, 2)) (hn : i < nL) (hv : xs1 lv i (.ref x) = lv') (k : XA l Z y cc nL ret hh d mc ms Q X (pc + 2) lv' st h nc ns) : XA l Z y cc nL ret hh d mc ms Q X pc lv (.ref x :: st) h nc ns := by
  intro D cA ws0 p e s m args below meth c H locs ws ls C hP hD hC hS hl
  exact lv_astore C.1 C.2.1 hdg hl hn hv (fun ls' hl' => k D cA ws0 p e s m args below meth c H locs ws ls' C hP hD hC hS hl')
theorem XA.astore_nN {k0 : Fin 4} (hdg : decode cc pc = .ok (.astore_n k0, 1)) (hn : (k0 : Nat) < nL) (hv : xs1 lv (k0 : Nat) .null = lv') (k : XA l Z y cc nL ret hh d mc ms Q X (pc + 1) lv' st h nc ns) : XA l Z y cc nL ret hh d mc ms Q X pc lv (.null :: st) h nc ns := by
  intro D cA ws0 p e s m args below meth c H locs ws ls C hP hD hC hS hl
  exact lv_astore_nN C.1 C.2.1 hdg rfl hl hn hv (fun ls' hl' => k D cA ws0 p e s m args below meth c H locs ws ls' C hP hD hC hS hl')
theorem XA.astoreN {i : Nat} (hdg : decode cc pc = .ok (.astore i, 2)) (hn : i < nL) (hv : xs1 lv i .null = lv') (k : XA l Z y cc nL ret hh d mc ms Q X (pc + 2) lv' st h nc ns) : XA l Z y cc nL ret hh d mc ms Q X pc lv (.null :: st) h nc ns := by
  intro D cA ws0 p e s m args below meth c H locs ws ls C hP hD hC hS hl
  exact lv_astoreN C.1 C.2.1 hdg hl hn hv (fun ls' hl' => k D cA ws0 p e s m args below meth c H locs ws ls' C hP hD hC hS hl')
theorem xlk_get {i : Nat} {v : Value} {lv : List (Nat × Value)} (h : xlk lv i = some v) : ∃ k : Nat, lv[k]? = some (i, v) := List.getElem?_of_mem (xlk_mem h)
theorem XA.iinc {i : Nat} {n : Int} {x v : Int32} (hdg : decode cc pc = .ok (.iinc i n, 3)) (hk : xlk lv i = some (.int x)) (hx : x + Int32.ofInt n = v) (hn : i < nL) (hv : xs1 lv i (.int v) = lv') (k : XA l Z y cc nL ret hh d mc ms Q X (pc + 3) lv' st h nc ns) : XA l Z y cc nL ret hh d mc ms Q X pc lv st h nc ns := by
  intro D cA ws0 p e s m args below meth c H locs ws ls C hP hD hC hS hl
  obtain ⟨k9, h9⟩ := xlk_get hk
  exact lv_iinc C.1 C.2.1 hdg hl (k := k9) h9 hx hn hv (fun ls' hl' => k D cA ws0 p e s m args below meth c H locs ws ls' C hP hD hC hS hl')
theorem XA.iadd {x z : Int32} (hdg : decode cc pc = .ok (.iadd, 1)) (k : XA l Z y cc nL ret hh d mc ms Q X (pc + 1) lv (.int (x + z) :: st) h nc ns) : XA l Z y cc nL ret hh d mc ms Q X pc lv (.int z :: .int x :: st) h nc ns := by
  intro D cA ws0 p e s m args below meth c H locs ws ls C hP hD hC hS hl
  exact lv_iadd C.1 C.2.1 hdg  (k D cA ws0 p e s m args below meth c H locs ws ls C hP hD hC hS hl)
theorem XA.isub {x z : Int32} (hdg : decode cc pc = .ok (.isub, 1)) (k : XA l Z y cc nL ret hh d mc ms Q X (pc + 1) lv (.int (x - z) :: st) h nc ns) : XA l Z y cc nL ret hh d mc ms Q X pc lv (.int z :: .int x :: st) h nc ns := by
  intro D cA ws0 p e s m args below meth c H locs ws ls C hP hD hC hS hl
  exact lv_isub C.1 C.2.1 hdg  (k D cA ws0 p e s m args below meth c H locs ws ls C hP hD hC hS hl)
theorem XA.imul {x z : Int32} (hdg : decode cc pc = .ok (.imul, 1)) (k : XA l Z y cc nL ret hh d mc ms Q X (pc + 1) lv (.int (x * z) :: st) h nc ns) : XA l Z y cc nL ret hh d mc ms Q X pc lv (.int z :: .int x :: st) h nc ns := by
  intro D cA ws0 p e s m args below meth c H locs ws ls C hP hD hC hS hl
  exact lv_imul C.1 C.2.1 hdg  (k D cA ws0 p e s m args below meth c H locs ws ls C hP hD hC hS hl)
theorem XA.iand {x z : Int32} (hdg : decode cc pc = .ok (.iand, 1)) (k : XA l Z y cc nL ret hh d mc ms Q X (pc + 1) lv (.int (x &&& z) :: st) h nc ns) : XA l Z y cc nL ret hh d mc ms Q X pc lv (.int z :: .int x :: st) h nc ns := by
  intro D cA ws0 p e s m args below meth c H locs ws ls C hP hD hC hS hl
  exact lv_iand C.1 C.2.1 hdg  (k D cA ws0 p e s m args below meth c H locs ws ls C hP hD hC hS hl)
theorem XA.ior {x z : Int32} (hdg : decode cc pc = .ok (.ior, 1)) (k : XA l Z y cc nL ret hh d mc ms Q X (pc + 1) lv (.int (x ||| z) :: st) h nc ns) : XA l Z y cc nL ret hh d mc ms Q X pc lv (.int z :: .int x :: st) h nc ns := by
  intro D cA ws0 p e s m args below meth c H locs ws ls C hP hD hC hS hl
  exact lv_ior C.1 C.2.1 hdg  (k D cA ws0 p e s m args below meth c H locs ws ls C hP hD hC hS hl)
theorem XA.ixor {x z : Int32} (hdg : decode cc pc = .ok (.ixor, 1)) (k : XA l Z y cc nL ret hh d mc ms Q X (pc + 1) lv (.int (x ^^^ z) :: st) h nc ns) : XA l Z y cc nL ret hh d mc ms Q X pc lv (.int z :: .int x :: st) h nc ns := by
  intro D cA ws0 p e s m args below meth c H locs ws ls C hP hD hC hS hl
  exact lv_ixor C.1 C.2.1 hdg  (k D cA ws0 p e s m args below meth c H locs ws ls C hP hD hC hS hl)
theorem XA.ladd {x z : Int64} (hdg : decode cc pc = .ok (.ladd, 1)) (k : XA l Z y cc nL ret hh d mc ms Q X (pc + 1) lv (.long (x + z) :: st) h nc ns) : XA l Z y cc nL ret hh d mc ms Q X pc lv (.long z :: .long x :: st) h nc ns := by
  intro D cA ws0 p e s m args below meth c H locs ws ls C hP hD hC hS hl
  exact lv_ladd C.1 C.2.1 hdg  (k D cA ws0 p e s m args below meth c H locs ws ls C hP hD hC hS hl)
theorem XA.lsub {x z : Int64} (hdg : decode cc pc = .ok (.lsub, 1)) (k : XA l Z y cc nL ret hh d mc ms Q X (pc + 1) lv (.long (x - z) :: st) h nc ns) : XA l Z y cc nL ret hh d mc ms Q X pc lv (.long z :: .long x :: st) h nc ns := by
  intro D cA ws0 p e s m args below meth c H locs ws ls C hP hD hC hS hl
  exact lv_lsub C.1 C.2.1 hdg  (k D cA ws0 p e s m args below meth c H locs ws ls C hP hD hC hS hl)
theorem XA.lmul {x z : Int64} (hdg : decode cc pc = .ok (.lmul, 1)) (k : XA l Z y cc nL ret hh d mc ms Q X (pc + 1) lv (.long (x * z) :: st) h nc ns) : XA l Z y cc nL ret hh d mc ms Q X pc lv (.long z :: .long x :: st) h nc ns := by
  intro D cA ws0 p e s m args below meth c H locs ws ls C hP hD hC hS hl
  exact lv_lmul C.1 C.2.1 hdg  (k D cA ws0 p e s m args below meth c H locs ws ls C hP hD hC hS hl)
theorem XA.land {x z : Int64} (hdg : decode cc pc = .ok (.land, 1)) (k : XA l Z y cc nL ret hh d mc ms Q X (pc + 1) lv (.long (x &&& z) :: st) h nc ns) : XA l Z y cc nL ret hh d mc ms Q X pc lv (.long z :: .long x :: st) h nc ns := by
  intro D cA ws0 p e s m args below meth c H locs ws ls C hP hD hC hS hl
  exact lv_land C.1 C.2.1 hdg  (k D cA ws0 p e s m args below meth c H locs ws ls C hP hD hC hS hl)
theorem XA.lor {x z : Int64} (hdg : decode cc pc = .ok (.lor, 1)) (k : XA l Z y cc nL ret hh d mc ms Q X (pc + 1) lv (.long (x ||| z) :: st) h nc ns) : XA l Z y cc nL ret hh d mc ms Q X pc lv (.long z :: .long x :: st) h nc ns := by
  intro D cA ws0 p e s m args below meth c H locs ws ls C hP hD hC hS hl
  exact lv_lor C.1 C.2.1 hdg  (k D cA ws0 p e s m args below meth c H locs ws ls C hP hD hC hS hl)
theorem XA.idiv {x z : Int32} (hne : ¬ z = 0) (hdg : decode cc pc = .ok (.idiv, 1)) (k : XA l Z y cc nL ret hh d mc ms Q X (pc + 1) lv (.int (x / z) :: st) h nc ns) : XA l Z y cc nL ret hh d mc ms Q X pc lv (.int z :: .int x :: st) h nc ns := by
  intro D cA ws0 p e s m args below meth c H locs ws ls C hP hD hC hS hl
  exact lv_idiv C.1 C.2.1 hdg hne (k D cA ws0 p e s m args below meth c H locs ws ls C hP hD hC hS hl)
theorem XA.irem {x z : Int32} (hne : ¬ z = 0) (hdg : decode cc pc = .ok (.irem, 1)) (k : XA l Z y cc nL ret hh d mc ms Q X (pc + 1) lv (.int (x - x / z * z) :: st) h nc ns) : XA l Z y cc nL ret hh d mc ms Q X pc lv (.int z :: .int x :: st) h nc ns := by
  intro D cA ws0 p e s m args below meth c H locs ws ls C hP hD hC hS hl
  exact lv_irem C.1 C.2.1 hdg hne (k D cA ws0 p e s m args below meth c H locs ws ls C hP hD hC hS hl)
theorem XA.ineg {x : Int32} (hdg : decode cc pc = .ok (.ineg, 1)) (k : XA l Z y cc nL ret hh d mc ms Q X (pc + 1) lv (.int (-x) :: st) h nc ns) : XA l Z y cc nL ret hh d mc ms Q X pc lv (.int x :: st) h nc ns := by
  intro D cA ws0 p e s m args below meth c H locs ws ls C hP hD hC hS hl
  exact lv_ineg C.1 C.2.1 hdg  (k D cA ws0 p e s m args below meth c H locs ws ls C hP hD hC hS hl)
theorem XA.ishl {x z v : Int32} (hdg : decode cc pc = .ok (.ishl, 1)) (hv : x <<< (z &&& 31) = v) (k : XA l Z y cc nL ret hh d mc ms Q X (pc + 1) lv (.int v :: st) h nc ns) : XA l Z y cc nL ret hh d mc ms Q X pc lv (.int z :: .int x :: st) h nc ns := by
  subst hv
  intro D cA ws0 p e s m args below meth c H locs ws ls C hP hD hC hS hl
  exact lv_ishl C.1 C.2.1 hdg (k D cA ws0 p e s m args below meth c H locs ws ls C hP hD hC hS hl)
theorem XA.i2l {x : Int32} {v : Int64} (hdg : decode cc pc = .ok (.i2l, 1)) (hv : x.toInt64 = v) (k : XA l Z y cc nL ret hh d mc ms Q X (pc + 1) lv (.long v :: st) h nc ns) : XA l Z y cc nL ret hh d mc ms Q X pc lv (.int x :: st) h nc ns := by
  intro D cA ws0 p e s m args below meth c H locs ws ls C hP hD hC hS hl
  exact lv_i2l C.1 C.2.1 hdg hv (k D cA ws0 p e s m args below meth c H locs ws ls C hP hD hC hS hl)
theorem XA.l2i {x : Int64} {v : Int32} (hdg : decode cc pc = .ok (.l2i, 1)) (hv : x.toInt32 = v) (k : XA l Z y cc nL ret hh d mc ms Q X (pc + 1) lv (.int v :: st) h nc ns) : XA l Z y cc nL ret hh d mc ms Q X pc lv (.long x :: st) h nc ns := by
  intro D cA ws0 p e s m args below meth c H locs ws ls C hP hD hC hS hl
  exact lv_l2i C.1 C.2.1 hdg hv (k D cA ws0 p e s m args below meth c H locs ws ls C hP hD hC hS hl)
theorem XA.i2c {x v : Int32} (hdg : decode cc pc = .ok (.i2c, 1)) (hv : (x.toUInt32 % 65536).toInt32 = v) (k : XA l Z y cc nL ret hh d mc ms Q X (pc + 1) lv (.int v :: st) h nc ns) : XA l Z y cc nL ret hh d mc ms Q X pc lv (.int x :: st) h nc ns := by
  intro D cA ws0 p e s m args below meth c H locs ws ls C hP hD hC hS hl
  exact lv_i2c C.1 C.2.1 hdg hv (k D cA ws0 p e s m args below meth c H locs ws ls C hP hD hC hS hl)
theorem XA.lushr {x v : Int64} {z : Int32} (hdg : decode cc pc = .ok (.lushr, 1)) (hv : (x.toUInt64 >>> (z.toInt64.toUInt64 &&& Int64.toUInt64 63)).toInt64 = v) (k : XA l Z y cc nL ret hh d mc ms Q X (pc + 1) lv (.long v :: st) h nc ns) : XA l Z y cc nL ret hh d mc ms Q X pc lv (.int z :: .long x :: st) h nc ns := by
  intro D cA ws0 p e s m args below meth c H locs ws ls C hP hD hC hS hl
  exact lv_lushr C.1 C.2.1 hdg hv (k D cA ws0 p e s m args below meth c H locs ws ls C hP hD hC hS hl)
theorem XA.lshl {x v : Int64} {z : Int32} (hdg : decode cc pc = .ok (.lshl, 1)) (hv : x <<< (z.toInt64 &&& 63) = v) (k : XA l Z y cc nL ret hh d mc ms Q X (pc + 1) lv (.long v :: st) h nc ns) : XA l Z y cc nL ret hh d mc ms Q X pc lv (.int z :: .long x :: st) h nc ns := by
  intro D cA ws0 p e s m args below meth c H locs ws ls C hP hD hC hS hl
  exact lv_lshl C.1 C.2.1 hdg hv (k D cA ws0 p e s m args below meth c H locs ws ls C hP hD hC hS hl)
theorem XA.lshr {x v : Int64} {z : Int32} (hdg : decode cc pc = .ok (.lshr, 1)) (hv : x >>> (z.toInt64 &&& 63) = v) (k : XA l Z y cc nL ret hh d mc ms Q X (pc + 1) lv (.long v :: st) h nc ns) : XA l Z y cc nL ret hh d mc ms Q X pc lv (.int z :: .long x :: st) h nc ns := by
  intro D cA ws0 p e s m args below meth c H locs ws ls C hP hD hC hS hl
  exact lv_lshr C.1 C.2.1 hdg hv (k D cA ws0 p e s m args below meth c H locs ws ls C hP hD hC hS hl)
theorem XA.dup {v : Value} (hdg : decode cc pc = .ok (.dup, 1)) (hv : v.category = 1) (k : XA l Z y cc nL ret hh d mc ms Q X (pc + 1) lv (v :: v :: st) h nc ns) : XA l Z y cc nL ret hh d mc ms Q X pc lv (v :: st) h nc ns := by
  intro D cA ws0 p e s m args below meth c H locs ws ls C hP hD hC hS hl
  exact lv_dup C.1 C.2.1 hdg hv (k D cA ws0 p e s m args below meth c H locs ws ls C hP hD hC hS hl)
theorem XA.dup_x1 {v w : Value} (hdg : decode cc pc = .ok (.dup_x1, 1)) (hv : v.category = 1) (hw : w.category = 1) (k : XA l Z y cc nL ret hh d mc ms Q X (pc + 1) lv (v :: w :: v :: st) h nc ns) : XA l Z y cc nL ret hh d mc ms Q X pc lv (v :: w :: st) h nc ns := by
  intro D cA ws0 p e s m args below meth c H locs ws ls C hP hD hC hS hl
  exact lv_dup_x1 C.1 C.2.1 hdg hv hw (k D cA ws0 p e s m args below meth c H locs ws ls C hP hD hC hS hl)
theorem XA.dup_x2 {v w z : Value} (hdg : decode cc pc = .ok (.dup_x2, 1)) (hv : v.category = 1) (hw : w.category = 1) (hz : z.category = 1) (k : XA l Z y cc nL ret hh d mc ms Q X (pc + 1) lv (v :: w :: z :: v :: st) h nc ns) : XA l Z y cc nL ret hh d mc ms Q X pc lv (v :: w :: z :: st) h nc ns := by
  intro D cA ws0 p e s m args below meth c H locs ws ls C hP hD hC hS hl
  exact lv_dup_x2 C.1 C.2.1 hdg hv hw hz (k D cA ws0 p e s m args below meth c H locs ws ls C hP hD hC hS hl)
theorem XA.dup2 {v w : Value} (hdg : decode cc pc = .ok (.dup2, 1)) (hv : v.category = 1) (hw : w.category = 1) (k : XA l Z y cc nL ret hh d mc ms Q X (pc + 1) lv (v :: w :: v :: w :: st) h nc ns) : XA l Z y cc nL ret hh d mc ms Q X pc lv (v :: w :: st) h nc ns := by
  intro D cA ws0 p e s m args below meth c H locs ws ls C hP hD hC hS hl
  exact lv_dup2_11 C.1 C.2.1 hdg hv hw (k D cA ws0 p e s m args below meth c H locs ws ls C hP hD hC hS hl)
theorem XA.pop {v : Value} (hdg : decode cc pc = .ok (.pop, 1)) (hv : v.category = 1) (k : XA l Z y cc nL ret hh d mc ms Q X (pc + 1) lv st h nc ns) : XA l Z y cc nL ret hh d mc ms Q X pc lv (v :: st) h nc ns := by
  intro D cA ws0 p e s m args below meth c H locs ws ls C hP hD hC hS hl
  exact lv_pop C.1 C.2.1 hdg hv (k D cA ws0 p e s m args below meth c H locs ws ls C hP hD hC hS hl)
theorem XA.goto {off : Int} {tgt : Nat} (hdg : decode cc pc = .ok (.goto off, 3)) (ht : (pc : Int) + off = (tgt : Int)) (k : XA l Z y cc nL ret hh d mc ms Q X tgt lv st h nc ns) : XA l Z y cc nL ret hh d mc ms Q X pc lv st h nc ns := by
  intro D cA ws0 p e s m args below meth c H locs ws ls C hP hD hC hS hl
  exact lv_goto C.1 C.2.1 hdg ht (k D cA ws0 p e s m args below meth c H locs ws ls C hP hD hC hS hl)
theorem XA.ifnull {a : Nat} {off : Int} (hdg : decode cc pc = .ok (.ifnull off, 3)) (k : XA l Z y cc nL ret hh d mc ms Q X (pc + 3) lv st h nc ns) : XA l Z y cc nL ret hh d mc ms Q X pc lv (.ref a :: st) h nc ns := by
  intro D cA ws0 p e s m args below meth c H locs ws ls C hP hD hC hS hl
  exact lv_ifnull C.1 C.2.1 hdg (k D cA ws0 p e s m args below meth c H locs ws ls C hP hD hC hS hl)
theorem XA.ifnullN {off : Int} {tgt : Nat} (hdg : decode cc pc = .ok (.ifnull off, 3)) (ht : (pc : Int) + off = (tgt : Int)) (k : XA l Z y cc nL ret hh d mc ms Q X tgt lv st h nc ns) : XA l Z y cc nL ret hh d mc ms Q X pc lv (.null :: st) h nc ns := by
  intro D cA ws0 p e s m args below meth c H locs ws ls C hP hD hC hS hl
  exact lv_ifnullN C.1 C.2.1 hdg ht (k D cA ws0 p e s m args below meth c H locs ws ls C hP hD hC hS hl)
theorem XA.ifnonnull {a : Nat} {off : Int} {tgt : Nat} (hdg : decode cc pc = .ok (.ifnonnull off, 3)) (ht : (pc : Int) + off = (tgt : Int)) (k : XA l Z y cc nL ret hh d mc ms Q X tgt lv st h nc ns) : XA l Z y cc nL ret hh d mc ms Q X pc lv (.ref a :: st) h nc ns := by
  intro D cA ws0 p e s m args below meth c H locs ws ls C hP hD hC hS hl
  exact lv_ifnonnull C.1 C.2.1 hdg ht (k D cA ws0 p e s m args below meth c H locs ws ls C hP hD hC hS hl)
theorem XA.ifnonnullN {off : Int} (hdg : decode cc pc = .ok (.ifnonnull off, 3)) (k : XA l Z y cc nL ret hh d mc ms Q X (pc + 3) lv st h nc ns) : XA l Z y cc nL ret hh d mc ms Q X pc lv (.null :: st) h nc ns := by
  intro D cA ws0 p e s m args below meth c H locs ws ls C hP hD hC hS hl
  exact lv_ifnonnullN C.1 C.2.1 hdg (k D cA ws0 p e s m args below meth c H locs ws ls C hP hD hC hS hl)
theorem XA.if_eq {x : Int32} {off : Int} {tgt : Nat} (hdg : decode cc pc = .ok (.ifCond .eq off, 3)) (ht : (pc : Int) + off = (tgt : Int)) (kt : x = 0 → XA l Z y cc nL ret hh d mc ms Q X tgt lv st h nc ns) (kf : ¬ x = 0 → XA l Z y cc nL ret hh d mc ms Q X (pc + 3) lv st h nc ns) : XA l Z y cc nL ret hh d mc ms Q X pc lv (.int x :: st) h nc ns := by
  intro D cA ws0 p e s m args below meth c H locs ws ls C hP hD hC hS hl
  exact lv_if_eq C.1 C.2.1 hdg ht (fun c9 => kt c9 D cA ws0 p e s m args below meth c H locs ws ls C hP hD hC hS hl) (fun c9 => kf c9 D cA ws0 p e s m args below meth c H locs ws ls C hP hD hC hS hl)
theorem XA.icmp_eq {x z : Int32} {off : Int} {tgt : Nat} (hdg : decode cc pc = .ok (.if_icmp .eq off, 3)) (ht : (pc : Int) + off = (tgt : Int)) (kt : x = z → XA l Z y cc nL ret hh d mc ms Q X tgt lv st h nc ns) (kf : ¬ x = z → XA l Z y cc nL ret hh d mc ms Q X (pc + 3) lv st h nc ns) : XA l Z y cc nL ret hh d mc ms Q X pc lv (.int z :: .int x :: st) h nc ns := by
  intro D cA ws0 p e s m args below meth c H locs ws ls C hP hD hC hS hl
  exact lv_icmp_eq C.1 C.2.1 hdg ht (fun c9 => kt c9 D cA ws0 p e s m args below meth c H locs ws ls C hP hD hC hS hl) (fun c9 => kf c9 D cA ws0 p e s m args below meth c H locs ws ls C hP hD hC hS hl)
theorem XA.if_ne {x : Int32} {off : Int} {tgt : Nat} (hdg : decode cc pc = .ok (.ifCond .ne off, 3)) (ht : (pc : Int) + off = (tgt : Int)) (kt : ¬ x = 0 → XA l Z y cc nL ret hh d mc ms Q X tgt lv st h nc ns) (kf : x = 0 → XA l Z y cc nL ret hh d mc ms Q X (pc + 3) lv st h nc ns) : XA l Z y cc nL ret hh d mc ms Q X pc lv (.int x :: st) h nc ns := by
  intro D cA ws0 p e s m args below meth c H locs ws ls C hP hD hC hS hl
  exact lv_if_ne C.1 C.2.1 hdg ht (fun c9 => kt c9 D cA ws0 p e s m args below meth c H locs ws ls C hP hD hC hS hl) (fun c9 => kf c9 D cA ws0 p e s m args below meth c H locs ws ls C hP hD hC hS hl)
theorem XA.icmp_ne {x z : Int32} {off : Int} {tgt : Nat} (hdg : decode cc pc = .ok (.if_icmp .ne off, 3)) (ht : (pc : Int) + off = (tgt : Int)) (kt : ¬ x = z → XA l Z y cc nL ret hh d mc ms Q X tgt lv st h nc ns) (kf : x = z → XA l Z y cc nL ret hh d mc ms Q X (pc + 3) lv st h nc ns) : XA l Z y cc nL ret hh d mc ms Q X pc lv (.int z :: .int x :: st) h nc ns := by
  intro D cA ws0 p e s m args below meth c H locs ws ls C hP hD hC hS hl
  exact lv_icmp_ne C.1 C.2.1 hdg ht (fun c9 => kt c9 D cA ws0 p e s m args below meth c H locs ws ls C hP hD hC hS hl) (fun c9 => kf c9 D cA ws0 p e s m args below meth c H locs ws ls C hP hD hC hS hl)
theorem XA.if_lt {x : Int32} {off : Int} {tgt : Nat} (hdg : decode cc pc = .ok (.ifCond .lt off, 3)) (ht : (pc : Int) + off = (tgt : Int)) (kt : x < 0 → XA l Z y cc nL ret hh d mc ms Q X tgt lv st h nc ns) (kf : ¬ x < 0 → XA l Z y cc nL ret hh d mc ms Q X (pc + 3) lv st h nc ns) : XA l Z y cc nL ret hh d mc ms Q X pc lv (.int x :: st) h nc ns := by
  intro D cA ws0 p e s m args below meth c H locs ws ls C hP hD hC hS hl
  exact lv_if_lt C.1 C.2.1 hdg ht (fun c9 => kt c9 D cA ws0 p e s m args below meth c H locs ws ls C hP hD hC hS hl) (fun c9 => kf c9 D cA ws0 p e s m args below meth c H locs ws ls C hP hD hC hS hl)
theorem XA.icmp_lt {x z : Int32} {off : Int} {tgt : Nat} (hdg : decode cc pc = .ok (.if_icmp .lt off, 3)) (ht : (pc : Int) + off = (tgt : Int)) (kt : x < z → XA l Z y cc nL ret hh d mc ms Q X tgt lv st h nc ns) (kf : ¬ x < z → XA l Z y cc nL ret hh d mc ms Q X (pc + 3) lv st h nc ns) : XA l Z y cc nL ret hh d mc ms Q X pc lv (.int z :: .int x :: st) h nc ns := by
  intro D cA ws0 p e s m args below meth c H locs ws ls C hP hD hC hS hl
  exact lv_icmp_lt C.1 C.2.1 hdg ht (fun c9 => kt c9 D cA ws0 p e s m args below meth c H locs ws ls C hP hD hC hS hl) (fun c9 => kf c9 D cA ws0 p e s m args below meth c H locs ws ls C hP hD hC hS hl)
theorem XA.if_ge {x : Int32} {off : Int} {tgt : Nat} (hdg : decode cc pc = .ok (.ifCond .ge off, 3)) (ht : (pc : Int) + off = (tgt : Int)) (kt : 0 ≤ x → XA l Z y cc nL ret hh d mc ms Q X tgt lv st h nc ns) (kf : ¬ 0 ≤ x → XA l Z y cc nL ret hh d mc ms Q X (pc + 3) lv st h nc ns) : XA l Z y cc nL ret hh d mc ms Q X pc lv (.int x :: st) h nc ns := by
  intro D cA ws0 p e s m args below meth c H locs ws ls C hP hD hC hS hl
  exact lv_if_ge C.1 C.2.1 hdg ht (fun c9 => kt c9 D cA ws0 p e s m args below meth c H locs ws ls C hP hD hC hS hl) (fun c9 => kf c9 D cA ws0 p e s m args below meth c H locs ws ls C hP hD hC hS hl)
theorem XA.icmp_ge {x z : Int32} {off : Int} {tgt : Nat} (hdg : decode cc pc = .ok (.if_icmp .ge off, 3)) (ht : (pc : Int) + off = (tgt : Int)) (kt : z ≤ x → XA l Z y cc nL ret hh d mc ms Q X tgt lv st h nc ns) (kf : ¬ z ≤ x → XA l Z y cc nL ret hh d mc ms Q X (pc + 3) lv st h nc ns) : XA l Z y cc nL ret hh d mc ms Q X pc lv (.int z :: .int x :: st) h nc ns := by
  intro D cA ws0 p e s m args below meth c H locs ws ls C hP hD hC hS hl
  exact lv_icmp_ge C.1 C.2.1 hdg ht (fun c9 => kt c9 D cA ws0 p e s m args below meth c H locs ws ls C hP hD hC hS hl) (fun c9 => kf c9 D cA ws0 p e s m args below meth c H locs ws ls C hP hD hC hS hl)
theorem XA.if_gt {x : Int32} {off : Int} {tgt : Nat} (hdg : decode cc pc = .ok (.ifCond .gt off, 3)) (ht : (pc : Int) + off = (tgt : Int)) (kt : 0 < x → XA l Z y cc nL ret hh d mc ms Q X tgt lv st h nc ns) (kf : ¬ 0 < x → XA l Z y cc nL ret hh d mc ms Q X (pc + 3) lv st h nc ns) : XA l Z y cc nL ret hh d mc ms Q X pc lv (.int x :: st) h nc ns := by
  intro D cA ws0 p e s m args below meth c H locs ws ls C hP hD hC hS hl
  exact lv_if_gt C.1 C.2.1 hdg ht (fun c9 => kt c9 D cA ws0 p e s m args below meth c H locs ws ls C hP hD hC hS hl) (fun c9 => kf c9 D cA ws0 p e s m args below meth c H locs ws ls C hP hD hC hS hl)
theorem XA.icmp_gt {x z : Int32} {off : Int} {tgt : Nat} (hdg : decode cc pc = .ok (.if_icmp .gt off, 3)) (ht : (pc : Int) + off = (tgt : Int)) (kt : z < x → XA l Z y cc nL ret hh d mc ms Q X tgt lv st h nc ns) (kf : ¬ z < x → XA l Z y cc nL ret hh d mc ms Q X (pc + 3) lv st h nc ns) : XA l Z y cc nL ret hh d mc ms Q X pc lv (.int z :: .int x :: st) h nc ns := by
  intro D cA ws0 p e s m args below meth c H locs ws ls C hP hD hC hS hl
  exact lv_icmp_gt C.1 C.2.1 hdg ht (fun c9 => kt c9 D cA ws0 p e s m args below meth c H locs ws ls C hP hD hC hS hl) (fun c9 => kf c9 D cA ws0 p e s m args below meth c H locs ws ls C hP hD hC hS hl)
theorem XA.if_le {x : Int32} {off : Int} {tgt : Nat} (hdg : decode cc pc = .ok (.ifCond .le off, 3)) (ht : (pc : Int) + off = (tgt : Int)) (kt : x ≤ 0 → XA l Z y cc nL ret hh d mc ms Q X tgt lv st h nc ns) (kf : ¬ x ≤ 0 → XA l Z y cc nL ret hh d mc ms Q X (pc + 3) lv st h nc ns) : XA l Z y cc nL ret hh d mc ms Q X pc lv (.int x :: st) h nc ns := by
  intro D cA ws0 p e s m args below meth c H locs ws ls C hP hD hC hS hl
  exact lv_if_le C.1 C.2.1 hdg ht (fun c9 => kt c9 D cA ws0 p e s m args below meth c H locs ws ls C hP hD hC hS hl) (fun c9 => kf c9 D cA ws0 p e s m args below meth c H locs ws ls C hP hD hC hS hl)
theorem XA.icmp_le {x z : Int32} {off : Int} {tgt : Nat} (hdg : decode cc pc = .ok (.if_icmp .le off, 3)) (ht : (pc : Int) + off = (tgt : Int)) (kt : x ≤ z → XA l Z y cc nL ret hh d mc ms Q X tgt lv st h nc ns) (kf : ¬ x ≤ z → XA l Z y cc nL ret hh d mc ms Q X (pc + 3) lv st h nc ns) : XA l Z y cc nL ret hh d mc ms Q X pc lv (.int z :: .int x :: st) h nc ns := by
  intro D cA ws0 p e s m args below meth c H locs ws ls C hP hD hC hS hl
  exact lv_icmp_le C.1 C.2.1 hdg ht (fun c9 => kt c9 D cA ws0 p e s m args below meth c H locs ws ls C hP hD hC hS hl) (fun c9 => kf c9 D cA ws0 p e s m args below meth c H locs ws ls C hP hD hC hS hl)
theorem XA.lookup {dflt : Int} {ps : Array (Int × Int)} {len : Nat} {x : Int32} {off : Int} {tgt : Nat} (hdg : decode cc pc = .ok (.lookupswitch dflt ps, len)) (hp : (ps.toList.zip (ps.toList.drop 1)).all (fun (a, next) => a.1 < next.1) = true) (ho : Op.lookupswitch.offset ps.toList dflt x.toInt = off) (ht : (pc : Int) + off = (tgt : Int)) (k : XA l Z y cc nL ret hh d mc ms Q X tgt lv st h nc ns) : XA l Z y cc nL ret hh d mc ms Q X pc lv (.int x :: st) h nc ns := by
  intro D cA ws0 p e s m args below meth c H locs ws ls C hP hD hC hS hl
  exact lv_lookup C.1 C.2.1 hdg hp ho ht (k D cA ws0 p e s m args below meth c H locs ws ls C hP hD hC hS hl)
theorem XA.tableOut {dflt lo hi : Int} {offs : Array Int} {len : Nat} {x : Int32} {tgt : Nat} (hdg : decode cc pc = .ok (.tableswitch dflt lo hi offs, len)) (h9 : x.toInt < lo ∨ hi < x.toInt) (ht : (pc : Int) + dflt = (tgt : Int)) (k : XA l Z y cc nL ret hh d mc ms Q X tgt lv st h nc ns) : XA l Z y cc nL ret hh d mc ms Q X pc lv (.int x :: st) h nc ns := by
  intro D cA ws0 p e s m args below meth c H locs ws ls C hP hD hC hS hl
  exact lv_tableOut C.1 C.2.1 hdg h9 ht (k D cA ws0 p e s m args below meth c H locs ws ls C hP hD hC hS hl)
theorem XA.tableIn {dflt lo hi : Int} {offs : Array Int} {len : Nat} {x : Int32} {off : Int} {tgt : Nat} (hdg : decode cc pc = .ok (.tableswitch dflt lo hi offs, len)) (h1 : ¬ x.toInt < lo) (h2 : ¬ hi < x.toInt) (ho : offs[(x.toInt - lo).toNat]? = some off) (ht : (pc : Int) + off = (tgt : Int)) (k : XA l Z y cc nL ret hh d mc ms Q X tgt lv st h nc ns) : XA l Z y cc nL ret hh d mc ms Q X pc lv (.int x :: st) h nc ns := by
  intro D cA ws0 p e s m args below meth c H locs ws ls C hP hD hC hS hl
  exact lv_tableIn C.1 C.2.1 hdg h1 h2 ho ht (k D cA ws0 p e s m args below meth c H locs ws ls C hP hD hC hS hl)
/-- a class of ours by its number: its name, its fields -/
def XCls (ci : Nat) (C : String) (T : u_T) (N : Nat) (ty : Nat → FieldType) : Prop := vwCl[ci]? = some (C, T, N) ∧ (∀ w ∈ u_ws C T N, w ∈ xg) ∧ (∀ k, k < N → parseFieldDescriptor (T k).2.2.1 = some (ty k)) ∧ ∀ a, a < N → ∀ b, b < N → a ≠ b → (T a).2.1 ≠ (T b).2.1
/-- a field that an instruction names: class ci's k-th -/
def XFld (own : String) (index ci k : Nat) : Prop := ∃ (C : String) (T : u_T) (N : Nat) (ty : Nat → FieldType), XCls ci C T N ty ∧ k < N ∧ Cond.fieldLink own index (T k).1 (T k).2.1 (T k).2.2.1 ∈ xg
/-- the same, and what may be put there: ty, by a method of any name or (a final one) by <init> of its class -/
def XPut (own name : String) (index ci k : Nat) (v : Value) : Prop := ∃ (C : String) (T : u_T) (N : Nat) (ty : Nat → FieldType), XCls ci C T N ty ∧ k < N ∧ Cond.fieldLink own index (T k).1 (T k).2.1 (T k).2.2.1 ∈ xg ∧ narrow (ty k) v = v ∧ fits (ty k) v = true ∧ ((T k).2.2.2 = false ∨ ((T k).2.2.2 = true ∧ name = "<init>" ∧ (T k).1 = own))
theorem XA.get {index ci k : Nat} {a : Nat} {fs : List Value} {v : Value} (hf : XFld y.cls index ci k) (hdg : decode cc pc = .ok (.getfield index, 3)) (ha : h a = some (xO ci fs)) (hv : fs[k]? = some v) (k : XA l Z y cc nL ret hh d mc ms Q X (pc + 3) lv (v :: st) h nc ns) : XA l Z y cc nL ret hh d mc ms Q X pc lv (.ref a :: st) h nc ns := by
  intro D cA ws0 p e s m args below meth c H locs ws ls C hP hD hC hS hl
  obtain ⟨Cn, T, N, ty, ⟨hc, hin, hty, hnm⟩, hk, hw⟩ := hf
  obtain ⟨q0, he⟩ := hC _ _ ha
  exact va_get C.1 C.2.1 C.2.2.2.2.2.1 (fun w hw9 => List.mem_cons_of_mem _ (hin w hw9)) C.2.2.2.2.1 C.2.2.2.2.2.2.2.2.1 hP q0 he hc _ hk (C.2.2.2.2.2.1 _ (List.mem_cons_of_mem _ hw)) (fun _ q => q) hv hdg (k D cA ws0 p e s m args below meth c H locs ws ls C hP hD hC hS hl)
theorem xCov.set {D : va_G} {cA : Nat → ClassId} {h : XH} {ws : va_W} {A : Nat → Prop} {a q0 : Nat} {e0 e : XC} (hC : xCov cA h ws) (hD : va_D A ws) (he : ws[q0]? = some (a, xe cA e0)) : xCov cA (xup h a e) (ws.set q0 (a, xe cA e)) := by
  intro b f hb
  have hl := (List.getElem?_eq_some_iff.mp he).1
  by_cases hba : b = a
  · subst hba
    rw [xup_s] at hb
    cases hb
    exact ⟨q0, List.getElem?_set_self hl⟩
  · rw [xup_n hba] at hb
    obtain ⟨k, hk⟩ := hC b f hb
    refine ⟨k, ?_⟩
    rw [List.getElem?_set_ne (fun q => hba ?_)]
    · exact hk
    · subst q
      rw [he] at hk
      exact (congrArg Prod.fst (Option.some.inj hk)).symm
theorem xCov.push {cA : Nat → ClassId} {h : XH} {ws : va_W} {a : Nat} {e : XC} (hC : xCov cA h ws) : xCov cA (xup h a e) (ws ++ [(a, xe cA e)]) := by
  intro b f hb
  by_cases hba : b = a
  · subst hba
    rw [xup_s] at hb
    cases hb
    exact ⟨ws.length, by simp⟩
  · rw [xup_n hba] at hb
    obtain ⟨k, hk⟩ := hC b f hb
    exact ⟨k, by rw [List.getElem?_append_left (List.getElem?_eq_some_iff.mp hk).1]; exact hk⟩
theorem xCov.fresh {D : va_G} {cl : List vw_C} {cA : Nat → ClassId} {h : XH} {ws : va_W} {H : Heap} {a : Nat} (hC : xCov cA h ws) (hP : va_P D cl ws H) (ha : H.size ≤ a) : h a = none := by
  cases he : h a with
  | none => rfl
  | some e =>
    obtain ⟨k, hk⟩ := hC a e he
    have := (hP k _ hk).lt
    simp at this
    omega
theorem XA.put {index ci k : Nat} {a : Nat} {fs : List Value} {v : Value} (hf : XPut y.cls y.name index ci k v) (hdg : decode cc pc = .ok (.putfield index, 3)) (ha : h a = some (xO ci fs)) (hl9 : k < fs.length) (k : XA l Z y cc nL ret hh d mc ms Q X (pc + 3) lv st (xup h a (xO ci (fs.set k v))) nc ns) : XA l Z y cc nL ret hh d mc ms Q X pc lv (v :: .ref a :: st) h nc ns := by
  intro D cA ws0 p e s m args below meth c H locs ws ls C hP hD hC hS hl
  obtain ⟨Cn, T, N, ty, ⟨hc, hin, hty, hnm⟩, hk, hw, hna, hfi, hfin⟩ := hf
  obtain ⟨q0, he⟩ := hC _ _ ha
  have hin' : ∀ w ∈ u_ws Cn T N, w ∈ xw y cc nL ret hh := fun w hw9 => List.mem_cons_of_mem _ (hin w hw9)
  have hlk := C.2.2.2.2.2.1 _ (List.mem_cons_of_mem _ hw)
  rcases hfin with hfin | ⟨hfin, hn9, hd9⟩
  · exact va_put C.1 C.2.1 C.2.2.2.2.2.1 hin' ty hty hnm C.2.2.2.2.1 C.2.2.2.2.2.2.2.2.1 hP hD hS q0 he hc _ hk hlk (fun _ q => q) hfin (hty _ hk) hna hfi hl9 hdg (fun H1 locs1 hP1 hD1 hS1 => k D cA ws0 p e s m args below meth c H1 locs1 _ ls C hP1 hD1 (xCov.set (D := D) hC hD he) hS1 hl)
  · exact va_putF C.1 C.2.1 C.2.2.2.2.2.1 hin' ty hty hnm C.2.2.2.2.1 C.2.2.2.2.2.2.2.2.1 hP hD hS q0 he hc _ hk hlk (fun _ q => q) hfin (C.2.2.2.2.2.2.2.2.2.2.2.2.trans hn9) hd9 (hty _ hk) hna hfi hl9 hdg (fun H1 locs1 hP1 hD1 hS1 => k D cA ws0 p e s m args below meth c H1 locs1 _ ls C hP1 hD1 (xCov.set (D := D) hC hD he) hS1 hl)
theorem XA.iald {a n : Nat} {f : Nat → Int32} {i v : Int32} (hdg : decode cc pc = .ok (.iaload, 1)) (ha : h a = some (xI 0 n f)) (hin : vp_in i n) (hv : f i.toNatClampNeg = v) (k : XA l Z y cc nL ret hh d mc ms Q X (pc + 1) lv (.int v :: st) h nc ns) : XA l Z y cc nL ret hh d mc ms Q X pc lv (.int i :: .ref a :: st) h nc ns := by
  subst hv
  intro D cA ws0 p e s m args below meth c H locs ws ls C hP hD hC hS hl
  obtain ⟨q0, he⟩ := hC _ _ ha
  exact va_iald C.1 C.2.1 C.2.2.2.2.2.2.2.2.1 hP q0 0 he rfl hin hdg (k D cA ws0 p e s m args below meth c H locs ws ls C hP hD hC hS hl)
theorem XA.cald {a n : Nat} {f : Nat → Int32} {i v : Int32} (hdg : decode cc pc = .ok (.caload, 1)) (ha : h a = some (xI 2 n f)) (hin : vp_in i n) (hv : f i.toNatClampNeg = v) (k : XA l Z y cc nL ret hh d mc ms Q X (pc + 1) lv (.int v :: st) h nc ns) : XA l Z y cc nL ret hh d mc ms Q X pc lv (.int i :: .ref a :: st) h nc ns := by
  subst hv
  intro D cA ws0 p e s m args below meth c H locs ws ls C hP hD hC hS hl
  obtain ⟨q0, he⟩ := hC _ _ ha
  exact va_cald C.1 C.2.1 C.2.2.2.2.2.2.2.2.1 hP q0 2 he rfl hin hdg (k D cA ws0 p e s m args below meth c H locs ws ls C hP hD hC hS hl)
theorem XA.zald {a n : Nat} {f : Nat → Int32} {i v : Int32} (hdg : decode cc pc = .ok (.baload, 1)) (ha : h a = some (xI 3 n f)) (hin : vp_in i n) (hv : f i.toNatClampNeg = v) (k : XA l Z y cc nL ret hh d mc ms Q X (pc + 1) lv (.int v :: st) h nc ns) : XA l Z y cc nL ret hh d mc ms Q X pc lv (.int i :: .ref a :: st) h nc ns := by
  subst hv
  intro D cA ws0 p e s m args below meth c H locs ws ls C hP hD hC hS hl
  obtain ⟨q0, he⟩ := hC _ _ ha
  exact va_zald C.1 C.2.1 C.2.2.2.2.2.2.2.2.1 hP q0 3 he rfl hin hdg (k D cA ws0 p e s m args below meth c H locs ws ls C hP hD hC hS hl)
theorem XA.aald {a n : Nat} {f : Nat → Option Nat} {i : Int32} {v : Value} (hdg : decode cc pc = .ok (.aaload, 1)) (ha : h a = some (xR n f)) (hin : vp_in i n) (hv : va_rf (f i.toNatClampNeg) = v) (k : XA l Z y cc nL ret hh d mc ms Q X (pc + 1) lv (v :: st) h nc ns) : XA l Z y cc nL ret hh d mc ms Q X pc lv (.int i :: .ref a :: st) h nc ns := by
  subst hv
  intro D cA ws0 p e s m args below meth c H locs ws ls C hP hD hC hS hl
  obtain ⟨q0, he⟩ := hC _ _ ha
  exact va_aldq C.1 C.2.1 C.2.2.2.2.2.2.2.2.1 hP q0 4 he rfl hin hdg (k D cA ws0 p e s m args below meth c H locs ws ls C hP hD hC hS hl)
theorem XA.alen {a : Nat} {t : Nat} {x : vp_A} {v : Int32} (ht9 : t < 5) (hdg : decode cc pc = .ok (.arraylength, 1)) (ha : h a = some (.inl (t, x))) (hv : Int32.ofNat x.1 = v) (k : XA l Z y cc nL ret hh d mc ms Q X (pc + 1) lv (.int v :: st) h nc ns) : XA l Z y cc nL ret hh d mc ms Q X pc lv (.ref a :: st) h nc ns := by
  intro D cA ws0 p e s m args below meth c H locs ws ls C hP hD hC hS hl
  obtain ⟨q0, he⟩ := hC _ _ ha
  obtain ⟨ty, hty⟩ : ∃ ty, (xtys cA)[t]? = some (cA t, ty) := by
    rcases (show t = 0 ∨ t = 1 ∨ t = 2 ∨ t = 3 ∨ t = 4 by omega) with rfl | rfl | rfl | rfl | rfl <;> exact ⟨_, rfl⟩
  exact va_alen C.1 C.2.1 C.2.2.2.2.2.2.2.2.1 hP q0 t he hty hv hdg (k D cA ws0 p e s m args below meth c H locs ws ls C hP hD hC hS hl)
theorem XA.iast {a n : Nat} {f : Nat → Int32} {i x : Int32} (hdg : decode cc pc = .ok (.iastore, 1)) (ha : h a = some (xI 0 n f)) (hin : vp_in i n) (k : XA l Z y cc nL ret hh d mc ms Q X (pc + 1) lv st (xup h a (xI 0 n (upd f i.toNatClampNeg x))) nc ns) : XA l Z y cc nL ret hh d mc ms Q X pc lv (.int x :: .int i :: .ref a :: st) h nc ns := by
  intro D cA ws0 p e s m args below meth c H locs ws ls C hP hD hC hS hl
  obtain ⟨q0, he⟩ := hC _ _ ha
  exact va_iast C.1 C.2.1 C.2.2.2.2.2.2.2.2.1 hP hD hS q0 0 he rfl hin hdg (fun H1 locs1 hP1 hD1 hS1 => k D cA ws0 p e s m args below meth c H1 locs1 _ ls C hP1 hD1 (xCov.set (D := D) hC hD he) hS1 hl)
theorem XA.zast {a n : Nat} {f : Nat → Int32} {i x : Int32} (hdg : decode cc pc = .ok (.bastore, 1)) (ha : h a = some (xI 3 n f)) (hin : vp_in i n) (k : XA l Z y cc nL ret hh d mc ms Q X (pc + 1) lv st (xup h a (xI 3 n (upd f i.toNatClampNeg (vp_nar .boolean x)))) nc ns) : XA l Z y cc nL ret hh d mc ms Q X pc lv (.int x :: .int i :: .ref a :: st) h nc ns := by
  intro D cA ws0 p e s m args below meth c H locs ws ls C hP hD hC hS hl
  obtain ⟨q0, he⟩ := hC _ _ ha
  exact va_zast C.1 C.2.1 C.2.2.2.2.2.2.2.2.1 hP hD hS q0 3 he rfl hin hdg (fun H1 locs1 hP1 hD1 hS1 => k D cA ws0 p e s m args below meth c H1 locs1 _ ls C hP1 hD1 (xCov.set (D := D) hC hD he) hS1 hl)
theorem XA.cast {a n : Nat} {f : Nat → Int32} {i x : Int32} (hdg : decode cc pc = .ok (.castore, 1)) (ha : h a = some (xI 2 n f)) (hin : vp_in i n) (k : XA l Z y cc nL ret hh d mc ms Q X (pc + 1) lv st (xup h a (xI 2 n (upd f i.toNatClampNeg (vp_nar .char x)))) nc ns) : XA l Z y cc nL ret hh d mc ms Q X pc lv (.int x :: .int i :: .ref a :: st) h nc ns := by
  intro D cA ws0 p e s m args below meth c H locs ws ls C hP hD hC hS hl
  obtain ⟨q0, he⟩ := hC _ _ ha
  exact va_cast C.1 C.2.1 C.2.2.2.2.2.2.2.2.1 hP hD hS q0 2 he rfl hin hdg (fun H1 locs1 hP1 hD1 hS1 => k D cA ws0 p e s m args below meth c H1 locs1 _ ls C hP1 hD1 (xCov.set (D := D) hC hD he) hS1 hl)
theorem XA.aast {a n v : Nat} {fs : List Value} {f : Nat → Option Nat} {i : Int32} (hdg : decode cc pc = .ok (.aastore, 1)) (ha : h a = some (xR n f)) (hv : h v = some (xO 9 fs)) (hin : vp_in i n) (k : XA l Z y cc nL ret hh d mc ms Q X (pc + 1) lv st (xup h a (xR n (va_up f i.toNatClampNeg (some v)))) nc ns) : XA l Z y cc nL ret hh d mc ms Q X pc lv (.ref v :: .int i :: .ref a :: st) h nc ns := by
  intro D cA ws0 p e s m args below meth c H locs ws ls C hP hD hC hS hl
  obtain ⟨q0, he⟩ := hC _ _ ha
  obtain ⟨q1, he1⟩ := hC _ _ hv
  exact va_astq C.1 C.2.1 C.2.2.2.2.2.2.2.2.1 hP hD hS q0 4 q1 9 (r := (RX10, TX10, 9)) he rfl he1 rfl hin hdg (fun H1 locs1 hP1 hD1 hS1 => k D cA ws0 p e s m args below meth c H1 locs1 _ ls C hP1 hD1 (xCov.set (D := D) hC hD he) hS1 hl)
theorem xEnd {D : va_G} {cA : Nat → ClassId} {ws0 ws : va_W} {sz : Nat} {Q : Option Value → XH → Prop} {h : XH} {v : Option Value} {args : Array Value} {s t : State} {H : Heap} {locs : List Loc} (hq : Q v h) (hP : va_P D vwCl ws H) (hD : va_D (va_A ws0 sz) ws) (hC : xCov cA h ws) (hS : va_S (va_A ws0 sz) s.heap H locs) (hK : va_K D vwCl (xtys cA) s) (ht : t.heap = H) (hW : s.WarmedH t.vm) : xQ D cA ws0 sz Q args s (.returned v) t :=
  ⟨⟨v, h, rfl, hq, ws, by rw [ht]; exact hP, hD, hK.moved hW.alike, hC⟩, hS.F ht⟩
theorem XA.iret {x : Int32} (hr : ret = some .int) (hdg : decode cc pc = .ok (.ireturn, 1)) (hc9 : nc ≤ mc) (hs9 : ns ≤ ms) (hq : Q (some (.int x)) h) : XA l Z y cc nL ret hh d mc ms Q X pc lv [.int x] h nc ns := by
  intro D cA ws0 p e s m args below meth c H locs ws ls C hP hD hC hS hl
  exact W.widen hc9 hs9 (vx_ret (W.iret C.1 C.2.1 (C.2.2.2.1.trans hr) (fun t ht hW => xEnd hq hP hD hC hS C.2.2.2.2.2.2.2.2.1 ht hW) hS.2.2 hdg C.2.2.2.2.2.2.1))
theorem XA.lret {x : Int64} (hr : ret = some .long) (hdg : decode cc pc = .ok (.lreturn, 1)) (hc9 : nc ≤ mc) (hs9 : ns ≤ ms) (hq : Q (some (.long x)) h) : XA l Z y cc nL ret hh d mc ms Q X pc lv [.long x] h nc ns := by
  intro D cA ws0 p e s m args below meth c H locs ws ls C hP hD hC hS hl
  exact W.widen hc9 hs9 (vx_ret (W.lret C.1 C.2.1 (C.2.2.2.1.trans hr) (fun t ht hW => xEnd hq hP hD hC hS C.2.2.2.2.2.2.2.2.1 ht hW) hS.2.2 hdg C.2.2.2.2.2.2.1))
theorem XA.zret {x : Int32} {ty : FieldType} (hr : ret = some ty) (hn : narrow ty (.int x) = .int x) (hdg : decode cc pc = .ok (.ireturn, 1)) (hc9 : nc ≤ mc) (hs9 : ns ≤ ms) (hq : Q (some (.int x)) h) : XA l Z y cc nL ret hh d mc ms Q X pc lv [.int x] h nc ns := by
  intro D cA ws0 p e s m args below meth c H locs ws ls C hP hD hC hS hl
  exact W.widen hc9 hs9 (vx_ret (W.zret C.1 C.2.1 (C.2.2.2.1.trans hr) hn (fun t ht hW => xEnd hq hP hD hC hS C.2.2.2.2.2.2.2.2.1 ht hW) hS.2.2 hdg C.2.2.2.2.2.2.1))
theorem XA.vret (hr : ret = none) (hdg : decode cc pc = .ok (.return_, 1)) (hc9 : nc ≤ mc) (hs9 : ns ≤ ms) (hq : Q (none) h) : XA l Z y cc nL ret hh d mc ms Q X pc lv [] h nc ns := by
  intro D cA ws0 p e s m args below meth c H locs ws ls C hP hD hC hS hl
  exact W.widen hc9 hs9 (vx_ret (W.vret C.1 C.2.1 (C.2.2.2.1.trans hr) (fun t ht hW => xEnd hq hP hD hC hS C.2.2.2.2.2.2.2.2.1 ht hW) hS.2.2 hdg C.2.2.2.2.2.2.1))
theorem XA.aret {x : Nat} {nm : String} (hr : ret = some (.object nm)) (hdg : decode cc pc = .ok (.areturn, 1)) (hc9 : nc ≤ mc) (hs9 : ns ≤ ms) (hq : Q (some (.ref x)) h) : XA l Z y cc nL ret hh d mc ms Q X pc lv [.ref x] h nc ns := by
  intro D cA ws0 p e s m args below meth c H locs ws ls C hP hD hC hS hl
  exact W.widen hc9 hs9 (vx_ret (W.aret C.1 C.2.1 (C.2.2.2.1.trans hr) (Or.inl ⟨_, rfl⟩) (Or.inr ⟨_, rfl⟩) (fun t ht hW => xEnd hq hP hD hC hS C.2.2.2.2.2.2.2.2.1 ht hW) hS.2.2 hdg C.2.2.2.2.2.2.1))
theorem XA.aretN {nm : String} (hr : ret = some (.object nm)) (hdg : decode cc pc = .ok (.areturn, 1)) (hc9 : nc ≤ mc) (hs9 : ns ≤ ms) (hq : Q (some .null) h) : XA l Z y cc nL ret hh d mc ms Q X pc lv [.null] h nc ns := by
  intro D cA ws0 p e s m args below meth c H locs ws ls C hP hD hC hS hl
  exact W.widen hc9 hs9 (vx_ret (W.aret C.1 C.2.1 (C.2.2.2.1.trans hr) (Or.inl ⟨_, rfl⟩) (Or.inl rfl) (fun t ht hW => xEnd hq hP hD hC hS C.2.2.2.2.2.2.2.2.1 ht hW) hS.2.2 hdg C.2.2.2.2.2.2.1))
/-- the callee's start out of the caller's world -/
theorem xIn {l : Launch} {Z : XZ} {D : va_G} {cA : Nat → ClassId} {ws0 ws : va_W} {y : MethodName} {cc : ByteArray} {nL : Nat} {ret : Option FieldType} {hh : List (Nat × Nat × Nat × Nat)} {p : Program} {s : State} {m : MethodId} {args : Array Value} {meth : Method} {c : Code} {h : XH} {H : Heap} {locs : List Loc} {av : List Value}
    (C : xCx l Z D cA ws0 y cc nL ret hh p s m args meth c) (hP : va_P D vwCl ws H) (hD : va_D (va_A ws0 s.heap.size) ws) (hC : xCov cA h ws) (hS : va_S (va_A ws0 s.heap.size) s.heap H locs) :
    ∀ U : State, U.heap = H → s.WarmedH U.vm → va_Pc av (xPre Z D cA h ws H.size) av.toArray U := by
  intro U hU hW
  obtain ⟨-, -, -, -, -, -, -, -, hK, hE, hT, -, -⟩ := C
  refine ⟨rfl, by rw [hU], by rw [hU]; exact hP, hD.weaken (fun _ _ _ _ => trivial), va_K.moved hW.alike hK, hC, ?_, hT.warm hW⟩
  rw [hU]
  refine xE.narrow (xE.moved hW.alike (hE.kept hS.1 hS.2.1)) ?_
  intro q hq
  rcases hq with ⟨k, e, hk⟩ | hq
  · exact hD.2 k _ hk
  · exact Or.inr (Nat.le_trans hS.1 hq)
theorem xFree {ws0 ws : va_W} {s : State} {H : Heap} {locs : List Loc} (hD : va_D (va_A ws0 s.heap.size) ws) (hS : va_S (va_A ws0 s.heap.size) s.heap H locs) : ∀ q, va_A ws H.size q → va_A ws0 s.heap.size q := by
  intro q hq
  rcases hq with ⟨k, e, hk⟩ | hq
  · exact hD.2 k _ hk
  · exact Or.inr (Nat.le_trans hS.1 hq)
/-- a call that ran: either it comes back, or it throws out of this body too -/
theorem xCall {l : Launch} {Z : XZ} {D : va_G} {cA : Nat → ClassId} {ws0 ws : va_W} {y : MethodName} {cc : ByteArray} {nL : Nat} {ret : Option FieldType} {hh : List (Nat × Nat × Nat × Nat)} {p : Program} {e : Env} {s : State} {m : MethodId} {args : Array Value} {below : List Frame} {meth : Method} {c : Code} {h : XH} {H : Heap} {locs : List Loc} {a : Array Value} {d mc ms mc2 ms2 pc nc ns : Nat} {ls : Array Slot} {st rest : List Value} {lv : List (Nat × Value)} {Q Q2 : Option Value → XH → Prop} {X X2 : String → XH → Prop}
    (C : xCx l Z D cA ws0 y cc nL ret hh p s m args meth c) (hD : va_D (va_A ws0 s.heap.size) ws) (hS : va_S (va_A ws0 s.heap.size) s.heap H locs) (hl : lv_has ls nL lv)
    (hr : vx_Run p l e (xrm d mc ms) s m args below meth c H locs nc ns mc2 ms2 (F0 m pc ls st) rest (xQ D cA ws H.size Q2 a) (xX D cA ws H.size X2) (va_A ws H.size)) (hc9 : nc + mc2 ≤ mc) (hs9 : ns + ms2 ≤ ms)
    (kx : ∀ E h', X2 E h' → XT l Z y cc nL ret hh d mc ms Q X pc lv rest h' E (nc + mc2) (ns + ms2)) (kk : ∀ v h', Q2 v h' → XA l Z y cc nL ret hh d mc ms Q X (pc + 3) lv (v.toList ++ rest) h' (nc + mc2) (ns + ms2)) :
    W p l e (xrm d mc ms) s m args below meth c H locs nc ns (vx_MQ below (xQ D cA ws0 s.heap.size Q) (xX D cA ws0 s.heap.size X) args s mc ms (va_A ws0 s.heap.size)) (F0 m pc ls st) := by
  have hf := xFree hD hS
  intro T hT XT
  rcases hr T hT XT with ⟨v, st₀, t, T', L, h0, X', hL, e1, e2, ⟨⟨v', h', hv, hq, ws', hP', hD', hK', hC'⟩, hF⟩, go⟩ | ⟨q, st₀, t, T', L, E, ce, h0, X', hL, e1, e2, ⟨⟨h', hx, ws', hP', hD', hK', hC'⟩, hF⟩, hce, hcv, hcl, go⟩
  · cases hv
    obtain ⟨k1, k2, k3⟩ := vx_keep h0 e1 hS (fun q _ => hf q) hf hL hF
    obtain ⟨t2, a1, b1⟩ := kk v h' hq D cA ws0 p e s m args below meth c T'.heap (locs ++ L) ws' ls C (by rw [e1]; exact hP') (hD'.weaken (fun _ q _ z => hf q.1 z)) hC' k3 hl T' rfl X'
    exact ⟨t2, go t2 a1, b1⟩
  · obtain ⟨k1, k2, k3⟩ := vx_keep h0 e1 hS (fun q _ => hf q) hf hL hF
    obtain ⟨t2, a1, b1⟩ := kx E h' hx D cA ws0 p e s m args below meth c T'.heap (locs ++ L) ws' ls q ce C (by rw [e1]; exact hP') (hD'.weaken (fun _ q _ z => hf q.1 z)) hC' k3 hl (by rw [e1]; exact hce) hcv hcl T' rfl X'
    exact ⟨t2, go.trans a1, b1⟩
/-- the site of a call by its words -/
def XSiteV (own : String) (index : Nat) (C : String) (y2 : MethodName) (cc2 : ByteArray) (nL2 : Nat) (ret2 : Option FieldType) (n : Nat) : Prop :=
  Cond.methodLink own index y2 ∈ xg ∧ Cond.instanceMethod y2 ∈ xg ∧ Cond.selects C y2 y2 ∈ xg ∧ Cond.initialized C ∈ xg ∧ Cond.code y2 cc2 nL2 ret2 ∈ xg ∧ (y2.cls = C ∧ y2.cls ≠ "java/lang/invoke/MethodHandle" ∧ y2.cls ≠ "java/lang/invoke/VarHandle" ∧ (parseMethodDescriptor y2.desc).map (fun d => d.parameters.length) = some n)
def XSiteN (own : String) (index : Nat) (C : String) (y2 : MethodName) (cc2 : ByteArray) (nL2 : Nat) (ret2 : Option FieldType) (n : Nat) : Prop :=
  (∃ host : String, Cond.methodLinkNest own index y2 host ∈ lw_tbl) ∧ Cond.instanceMethod y2 ∈ xg ∧ Cond.selects C y2 y2 ∈ xg ∧ Cond.initialized C ∈ xg ∧ Cond.code y2 cc2 nL2 ret2 ∈ xg ∧ (y2.cls = C ∧ y2.cls ≠ "java/lang/invoke/MethodHandle" ∧ y2.cls ≠ "java/lang/invoke/VarHandle" ∧ (parseMethodDescriptor y2.desc).map (fun d => d.parameters.length) = some n)
def XSiteS (own : String) (index : Nat) (y2 : MethodName) (cc2 : ByteArray) (nL2 : Nat) (ret2 : Option FieldType) (n : Nat) : Prop :=
  Cond.methodLink own index y2 ∈ xg ∧ Cond.static y2 ∈ xg ∧ Cond.initialized y2.cls ∈ xg ∧ Cond.code y2 cc2 nL2 ret2 ∈ xg ∧ (y2.cls ≠ "java/lang/invoke/MethodHandle" ∧ y2.cls ≠ "java/lang/invoke/VarHandle" ∧ (parseMethodDescriptor y2.desc).map (fun d => d.parameters.length) = some n)
def XSiteI (own : String) (index : Nat) (y2 : MethodName) (cc2 : ByteArray) (nL2 : Nat) (n : Nat) : Prop :=
  (Cond.methodLink own index y2 ∈ xg ∨ ∃ host : String, Cond.methodLinkNest own index y2 host ∈ lw_tbl) ∧ Cond.instanceMethod y2 ∈ xg ∧ Cond.initialized y2.cls ∈ xg ∧ Cond.code y2 cc2 nL2 none ∈ xg ∧ y2.name = "<init>" ∧ (y2.cls ≠ "java/lang/invoke/MethodHandle" ∧ y2.cls ≠ "java/lang/invoke/VarHandle" ∧ (parseMethodDescriptor y2.desc).map (fun d => d.parameters.length) = some n)
theorem xGood {y : MethodName} {cc : ByteArray} {nL : Nat} {ret : Option FieldType} {hh : List (Nat × Nat × Nat × Nat)} {y2 : MethodName} {cc2 : ByteArray} {nL2 : Nat} {ret2 : Option FieldType} (h : Cond.code y2 cc2 nL2 ret2 ∈ xg) : GoodIn (xw y cc nL ret hh) (xw y2 cc2 nL2 ret2 []) := by
  intro w hw
  rcases List.mem_cons.mp hw with rfl | hw
  · exact ⟨List.mem_cons_of_mem _ h, xg_good h⟩
  · exact ⟨List.mem_cons_of_mem _ hw, xg_good hw⟩
theorem xRoom {d d2 mc ms mc2 ms2 nL2 : Nat} (hd : d2 + 1 ≤ d) (hn : nL2 ≤ 22) : (xrm d2 mc2 ms2).frames + 1 ≤ (xrm d mc ms).frames ∧ 8 + (nL2 + 11) + (xrm d2 mc2 ms2).locals ≤ (xrm d mc ms).locals := by
  show d2 + 12 + 1 ≤ d + 12 ∧ 8 + (nL2 + 11) + (41 * d2 + 524) ≤ 41 * d + 524
  omega
theorem XA.callV {index ci b n nL2 d2 mc2 ms2 : Nat} {y2 : MethodName} {cc2 : ByteArray} {ret2 : Option FieldType} {Cn : String} {T : u_T} {N : Nat} {fs : List Value} {As : List Value} {Q2 : Option Value → XH → Prop} {X2 : String → XH → Prop} (hM : XMet l Z y2 cc2 nL2 ret2 [] d2 mc2 ms2 (.ref b :: As) h Q2 X2) (hsite : XSiteV y.cls index Cn y2 cc2 nL2 ret2 n) (hdg : decode cc pc = .ok (.invokevirtual index, 3)) (hb : h b = some (xO ci fs)) (hcl : vwCl[ci]? = some (Cn, T, N)) (hst : rest = As.reverse ++ .ref b :: st) (hd : d2 + 1 ≤ d) (hn2 : nL2 ≤ 22) (hlen : As.length = n) (hcat : (st.map fun v => v.category).sum ≤ 8) (hc9 : nc + mc2 ≤ mc) (hs9 : ns + ms2 ≤ ms) (kx : ∀ E h', X2 E h' → XT l Z y cc nL ret hh d mc ms Q X pc lv st h' E (nc + mc2) (ns + ms2)) (kk : ∀ v h', Q2 v h' → XA l Z y cc nL ret hh d mc ms Q X (pc + 3) lv (v.toList ++ st) h' (nc + mc2) (ns + ms2)) : XA l Z y cc nL ret hh d mc ms Q X pc lv rest h nc ns := by
  intro D cA ws0 p e s m args below meth c H locs ws ls C hP hD hC hS hl
  obtain ⟨w1, w2, w3, w4, w5, hdd⟩ := hsite
  have hts := C.2.2.2.2.2.1
  obtain ⟨q0, he⟩ := hC _ _ hb
  have hgw : GoodIn (xw y cc nL ret hh) (wsV y.cls index Cn y2 (xw y2 cc2 nL2 ret2 [])) := by
    intro w hw
    rcases List.mem_append.mp hw with hw | hw
    · simp only [List.mem_cons, List.not_mem_nil, or_false] at hw
      rcases hw with rfl | rfl | rfl | rfl
      · exact ⟨List.mem_cons_of_mem _ w1, xg_good w1⟩
      · exact ⟨List.mem_cons_of_mem _ w2, xg_good w2⟩
      · exact ⟨List.mem_cons_of_mem _ w3, xg_good w3⟩
      · exact ⟨List.mem_cons_of_mem _ w4, xg_good w4⟩
    · exact xGood w5 w hw
  refine xCall (a := (Value.ref b :: As).toArray) (h := h) C hD hS hl (vx_runV (As := As) (rest := st) ⟨C.1, C.2.1, C.2.2.1, C.2.2.2.2.1, hts⟩ (hM C.2.2.2.2.2.2.2.2.2.2.2.1 D cA ws H.size) (cwV n hts hgw rfl rfl rfl hdd (xRoom hd hn2)) ⟨xPre_blind, va_recv C.2.2.2.2.2.2.2.2.1 hP hcl he, xIn C hP hD hC hS⟩ rfl hlen hl.1 hst (lv_room (st := st) (m := m) (pc := pc) (ls := ls) (rest := rest) hcat) hdg ⟨hc9, hs9⟩) hc9 hs9 kx kk
theorem XA.callN {index ci b n nL2 d2 mc2 ms2 : Nat} {y2 : MethodName} {cc2 : ByteArray} {ret2 : Option FieldType} {Cn : String} {T : u_T} {N : Nat} {fs : List Value} {As : List Value} {Q2 : Option Value → XH → Prop} {X2 : String → XH → Prop} (hM : XMet l Z y2 cc2 nL2 ret2 [] d2 mc2 ms2 (.ref b :: As) h Q2 X2) (hsite : XSiteN y.cls index Cn y2 cc2 nL2 ret2 n) (hdg : decode cc pc = .ok (.invokevirtual index, 3)) (hb : h b = some (xO ci fs)) (hcl : vwCl[ci]? = some (Cn, T, N)) (hst : rest = As.reverse ++ .ref b :: st) (hd : d2 + 1 ≤ d) (hn2 : nL2 ≤ 22) (hlen : As.length = n) (hcat : (st.map fun v => v.category).sum ≤ 8) (hc9 : nc + mc2 ≤ mc) (hs9 : ns + ms2 ≤ ms) (kx : ∀ E h', X2 E h' → XT l Z y cc nL ret hh d mc ms Q X pc lv st h' E (nc + mc2) (ns + ms2)) (kk : ∀ v h', Q2 v h' → XA l Z y cc nL ret hh d mc ms Q X (pc + 3) lv (v.toList ++ st) h' (nc + mc2) (ns + ms2)) : XA l Z y cc nL ret hh d mc ms Q X pc lv rest h nc ns := by
  intro D cA ws0 p e s m args below meth c H locs ws ls C hP hD hC hS hl
  obtain ⟨⟨host, w1⟩, w2, w3, w4, w5, hy9, hdd⟩ := hsite
  subst hy9
  have hts := C.2.2.2.2.2.1
  obtain ⟨q0, he⟩ := hC _ _ hb
  refine xCall (a := (Value.ref b :: As).toArray) (h := h) C hD hS hl (vx_runVN (host := host) (As := As) (rest := st) ⟨C.1, C.2.1, C.2.2.1, C.2.2.2.2.1, hts⟩ (hM C.2.2.2.2.2.2.2.2.2.2.2.1 D cA ws H.size) ⟨va_cnB n hts (xGood w5) rfl rfl rfl (C.2.2.2.2.2.2.2.2.2.2.1.1 _ w1 rfl) (hts _ (List.mem_cons_of_mem _ w4)) hdd (xRoom hd hn2), hts _ (List.mem_cons_of_mem _ w2), hts _ (List.mem_cons_of_mem _ w3)⟩ ⟨xPre_blind, va_recv C.2.2.2.2.2.2.2.2.1 hP hcl he, xIn C hP hD hC hS⟩ rfl hlen hl.1 hst (lv_room (st := st) (m := m) (pc := pc) (ls := ls) (rest := rest) hcat) hdg ⟨hc9, hs9⟩) hc9 hs9 kx kk
theorem XA.callS {index n nL2 d2 mc2 ms2 : Nat} {y2 : MethodName} {cc2 : ByteArray} {ret2 : Option FieldType} {As : List Value} {Q2 : Option Value → XH → Prop} {X2 : String → XH → Prop} (hM : XMet l Z y2 cc2 nL2 ret2 [] d2 mc2 ms2 As h Q2 X2) (hsite : XSiteS y.cls index y2 cc2 nL2 ret2 n) (hdg : decode cc pc = .ok (.invokestatic index, 3)) (hst : rest = As.reverse ++ st) (hd : d2 + 1 ≤ d) (hn2 : nL2 ≤ 22) (hlen : As.length = n) (hcat : (st.map fun v => v.category).sum ≤ 8) (hc9 : nc + mc2 ≤ mc) (hs9 : ns + ms2 ≤ ms) (kx : ∀ E h', X2 E h' → XT l Z y cc nL ret hh d mc ms Q X pc lv st h' E (nc + mc2) (ns + ms2)) (kk : ∀ v h', Q2 v h' → XA l Z y cc nL ret hh d mc ms Q X (pc + 3) lv (v.toList ++ st) h' (nc + mc2) (ns + ms2)) : XA l Z y cc nL ret hh d mc ms Q X pc lv rest h nc ns := by
  intro D cA ws0 p e s m args below meth c H locs ws ls C hP hD hC hS hl
  obtain ⟨w1, w2, w3, w4, hdd⟩ := hsite
  have hts := C.2.2.2.2.2.1
  refine xCall (a := As.toArray) (h := h) C hD hS hl (vx_runS (As := As) (rest := st) ⟨C.1, C.2.1, C.2.2.1, C.2.2.2.2.1, hts⟩ (hM C.2.2.2.2.2.2.2.2.2.2.2.1 D cA ws H.size) ⟨callB_of n hts (xGood w4) rfl rfl rfl (hts _ (List.mem_cons_of_mem _ w3)) (hts _ (List.mem_cons_of_mem _ w1)) hdd (xRoom hd hn2), hts _ (List.mem_cons_of_mem _ w2)⟩ ⟨xPre_blind, xIn C hP hD hC hS⟩ rfl hlen hl.1 hst (lv_room (st := st) (m := m) (pc := pc) (ls := ls) (rest := rest) hcat) hdg ⟨hc9, hs9⟩) hc9 hs9 kx kk
theorem XA.callI {index b n nL2 d2 mc2 ms2 : Nat} {y2 : MethodName} {cc2 : ByteArray} {As : List Value} {Q2 : Option Value → XH → Prop} {X2 : String → XH → Prop} (hM : XMet l Z y2 cc2 nL2 none [] d2 mc2 ms2 (.ref b :: As) h Q2 X2) (hsite : XSiteI y.cls index y2 cc2 nL2 n) (hdg : decode cc pc = .ok (.invokespecial index, 3)) (hst : rest = As.reverse ++ .ref b :: st) (hd : d2 + 1 ≤ d) (hn2 : nL2 ≤ 22) (hlen : As.length = n) (hcat : (st.map fun v => v.category).sum ≤ 8) (hc9 : nc + mc2 ≤ mc) (hs9 : ns + ms2 ≤ ms) (kx : ∀ E h', X2 E h' → XT l Z y cc nL ret hh d mc ms Q X pc lv st h' E (nc + mc2) (ns + ms2)) (kk : ∀ v h', Q2 v h' → XA l Z y cc nL ret hh d mc ms Q X (pc + 3) lv (v.toList ++ st) h' (nc + mc2) (ns + ms2)) : XA l Z y cc nL ret hh d mc ms Q X pc lv rest h nc ns := by
  intro D cA ws0 p e s m args below meth c H locs ws ls C hP hD hC hS hl
  obtain ⟨w1, w2, w4, w5, hn9, hdd⟩ := hsite
  have hts := C.2.2.2.2.2.1
  rcases w1 with w1 | ⟨host, w1⟩
  · refine xCall (a := (Value.ref b :: As).toArray) (h := h) C hD hS hl (vx_runI (As := As) (rest := st) ⟨C.1, C.2.1, C.2.2.1, C.2.2.2.2.1, hts⟩ (hM C.2.2.2.2.2.2.2.2.2.2.2.1 D cA ws H.size) ⟨callB_of n hts (xGood w5) rfl rfl rfl (hts _ (List.mem_cons_of_mem _ w4)) (hts _ (List.mem_cons_of_mem _ w1)) hdd (xRoom hd hn2), hn9, hts _ (List.mem_cons_of_mem _ w2)⟩ ⟨xPre_blind, xIn (av := .ref b :: As) C hP hD hC hS⟩ rfl hlen hl.1 hst (lv_room (st := st) (m := m) (pc := pc) (ls := ls) (rest := rest) hcat) hdg ⟨hc9, hs9⟩) hc9 hs9 kx kk
  · refine xCall (a := (Value.ref b :: As).toArray) (h := h) C hD hS hl (vx_runIN (host := host) (As := As) (rest := st) ⟨C.1, C.2.1, C.2.2.1, C.2.2.2.2.1, hts⟩ (hM C.2.2.2.2.2.2.2.2.2.2.2.1 D cA ws H.size) ⟨va_cnB n hts (xGood w5) rfl rfl rfl (C.2.2.2.2.2.2.2.2.2.2.1.1 _ w1 rfl) (hts _ (List.mem_cons_of_mem _ w4)) hdd (xRoom hd hn2), hn9, hts _ (List.mem_cons_of_mem _ w2)⟩ ⟨xPre_blind, xIn (av := .ref b :: As) C hP hD hC hS⟩ rfl hlen hl.1 hst (lv_room (st := st) (m := m) (pc := pc) (ls := ls) (rest := rest) hcat) hdg ⟨hc9, hs9⟩) hc9 hs9 kx kk
theorem XT.out {E : String} (hcov : ∀ x ∈ tableOf hh, covers x pc = false) (hc9 : nc ≤ mc) (hs9 : ns ≤ ms) (hx : X E h) : XT l Z y cc nL ret hh d mc ms Q X pc lv rest h E nc ns := by
  intro D cA ws0 p e s m args below meth c H locs ws ls q ce C hP hD hC hS hl hce hcv hcl
  exact vx_out (fun x hx9 => hcov x (by rw [← C.2.2.2.2.2.2.2.1]; exact hx9)) C.2.2.2.2.2.2.1 hce hcv hcl (fun t9 ht9 hal => ⟨⟨h, hx, ws, by rw [ht9]; exact hP, hD, va_K.moved hal C.2.2.2.2.2.2.2.2.1, hC⟩, hS.F ht9⟩) hS.2.2 hc9 hs9
theorem XT.nil {E : String} (hhh : hh = []) (hc9 : nc ≤ mc) (hs9 : ns ≤ ms) (hx : X E h) : XT l Z y cc nL ret hh d mc ms Q X pc lv rest h E nc ns := by
  subst hhh
  exact XT.out (fun x hx9 => absurd hx9 List.not_mem_nil) hc9 hs9 hx
/-- caught by the row x of the table; the rows ahead of it don't take it -/
theorem XT.catch {E name : String} (pre : List ExceptionTableEntry) (x : ExceptionTableEntry) (suf : List ExceptionTableEntry) (hsplit : tableOf hh = pre ++ x :: suf)
    (hpass : ∀ z ∈ pre, covers z pc = false ∨ (z.catchType ≠ 0 ∧ ∃ nm : String, Cond.classLink y.cls z.catchType nm ∈ xg ∧ (E, nm) ∈ xncs)) (hx : covers x pc = true) (h0 : x.catchType ≠ 0)
    (hlink : Cond.classLink y.cls x.catchType name ∈ xg) (hcast : Cond.castable E name ∈ lw_tbl) (k : ∀ q : Nat, XA l Z y cc nL ret hh d mc ms Q X x.handlerPc lv [.ref q] h nc ns) : XT l Z y cc nL ret hh d mc ms Q X pc lv rest h E nc ns := by
  intro D cA ws0 p e s m args below meth c H locs ws ls q ce C hP hD hC hS hl hce hcv hcl
  refine vx_catch (own := y.cls) (name := name) C.2.2.2.2.1 pre x suf (C.2.2.2.2.2.2.2.1.trans hsplit) ?_ hx h0 (C.2.2.2.2.2.1 _ (List.mem_cons_of_mem _ hlink)) (va_Nw.use rfl (C.2.2.2.2.2.2.2.2.2.2.1.1 _ hcast rfl)) hce hcv hcl (k q D cA ws0 p e s m args below meth c H locs ws ls C hP hD hC hS hl)
  intro z hz
  rcases hpass z hz with h1 | ⟨h1, nm, h2, h3⟩
  · exact Or.inl h1
  · exact Or.inr ⟨h1, nm, C.2.2.2.2.2.1 _ (List.mem_cons_of_mem _ h2), C.2.2.2.2.2.2.2.2.2.2.1.2.2.2 _ h3⟩
theorem XA.widen {nc' ns' : Nat} (h1 : nc ≤ nc') (h2 : ns ≤ ns') (k : XA l Z y cc nL ret hh d mc ms Q X pc lv st h nc' ns') : XA l Z y cc nL ret hh d mc ms Q X pc lv st h nc ns := by
  intro D cA ws0 p e s m args below meth c H locs ws ls C hP hD hC hS hl
  exact W.widen h1 h2 (k D cA ws0 p e s m args below meth c H locs ws ls C hP hD hC hS hl)
theorem XA.locals {lv1 : List (Nat × Value)} (hs : ∀ q ∈ lv1, q ∈ lv) (k : XA l Z y cc nL ret hh d mc ms Q X pc lv1 st h nc ns) : XA l Z y cc nL ret hh d mc ms Q X pc lv st h nc ns := by
  intro D cA ws0 p e s m args below meth c H locs ws ls C hP hD hC hS hl
  exact k D cA ws0 p e s m args below meth c H locs ws ls C hP hD hC hS ⟨hl.1, hl.2.1, fun q hq => hl.2.2 q (hs q hq)⟩
/-- the site of a 'throw new E()' -/
def XSiteX (own : String) (ik ic : Nat) (E : String) (names : List String) : Prop :=
  Bundle.fit E = true ∧ (∀ n ∈ names, Bundle.fit n = true) ∧ Cond.classLink own ik E ∈ xg ∧ Cond.initialized E ∈ xg ∧ (∀ w ∈ vx_at0 own ic E names, w ∈ lw_tbl ∧ (goodWord w = true ∨ (xisN w = true ∧ w.onTables = true))) ∧ ∀ w ∈ Cond.classLink own ik E :: Cond.initialized E :: vx_at0 own ic E names, vx_ot w = true
theorem XA.throw0 {ik ic : Nat} {E : String} {names : List String} (hsite : XSiteX y.cls ik ic E names) (hhh : hh = []) (hlen : names.length ≤ 8)
    (d0 : decode cc pc = .ok (.new ik, 3)) (d3 : decode cc (pc + 3) = .ok (.dup, 1)) (d4 : decode cc (pc + 4) = .ok (.invokespecial ic, 3)) (d7 : decode cc (pc + 7) = .ok (.athrow, 1)) (hcat : (st.map fun v => v.category).sum ≤ 8) (hc9 : nc + 1 ≤ mc) (hs9 : ns + 6 ≤ ms) (hx : X E h) : XA l Z y cc nL ret hh d mc ms Q X pc lv st h nc ns := by
  intro D cA ws0 p e s m args below meth c H locs ws ls C hP hD hC hS hl
  subst hhh
  obtain ⟨hf1, hf2, w1, w2, w3, w4⟩ := hsite
  have hts := C.2.2.2.2.2.1
  have hT := C.2.2.2.2.2.2.2.2.2.2.1
  refine vx_throw0 C.1 C.2.1 C.2.2.2.2.2.2.2.2.2.2.2.1 C.2.2.2.2.1 hf1 hf2 (hts _ (List.mem_cons_of_mem _ w1)) (hts _ (List.mem_cons_of_mem _ w2)) (fun w hw => ?_) w4 C.2.2.2.2.2.2.2.2.2.1.1 C.2.2.2.2.2.2.2.2.2.1.2.1 hS (hl.1.trans C.2.2.1.symm) d0 d3 d4 d7 (fun x hx9 => ?_) ?_ ?_ hc9 hs9 C.2.2.2.2.2.2.1 (fun t hal hz hk => ?_) hS.2.2 hc9 hs9
  · obtain ⟨h1, h2 | ⟨h2, h3⟩⟩ := w3 w hw
    · exact hts _ (List.mem_cons_of_mem _ (xg_in h1 h2))
    · exact va_Nw.use h3 (hT.1 _ h1 h2)
  · rw [C.2.2.2.2.2.2.2.1] at hx9
    exact absurd hx9 List.not_mem_nil
  · show names.length + 3 < d + 12
    omega
  · show _ ≤ 41 * d + 524
    omega
  · refine ⟨⟨h, hx, ws, hP.kept (fun k q hq => hk _ (hP k q hq).lt), hD, va_K.moved hal C.2.2.2.2.2.2.2.2.1, hC⟩, Nat.le_trans hS.1 hz, fun q h1 h2 => ?_⟩
    rw [hk q (Nat.lt_of_lt_of_le h1 hS.1)]
    exact hS.2.1 q h1 h2
/-- a new object of class ci -/
def XNew (own : String) (index ci N : Nat) (fs : List Value) : Prop := ∃ (C : String) (T : u_T) (ty : Nat → FieldType), XCls ci C T N ty ∧ Cond.classLink own index C ∈ xg ∧ Cond.instantiable C N ∈ xg ∧ Cond.initialized C ∈ xg ∧ ∀ j, j < N → defaultValue (ty j) = vp_V fs j
theorem xNone {D : va_G} {cA : Nat → ClassId} {A : Nat → Prop} {ws : va_W} {q : Nat} {e : va_E} (hC : xCov cA h ws) (hD : va_D A (ws ++ [(q, e)])) : h q = none := by
  cases he : h q with
  | none => rfl
  | some f =>
    obtain ⟨k, hk⟩ := hC q f he
    have hl := (List.getElem?_eq_some_iff.mp hk).1
    have := hD.1 k ws.length (q, xe cA f) (q, e) (by rw [List.getElem?_append_left hl]; exact hk) (by simp) rfl
    omega
theorem XA.new {index ci N : Nat} {fs : List Value} (hsite : XNew y.cls index ci N fs) (hdg : decode cc pc = .ok (.new index, 3)) (hc9 : nc + 1 ≤ mc) (hs9 : ns + N ≤ ms) (k : ∀ q : Nat, h q = none → XA l Z y cc nL ret hh d mc ms Q X (pc + 3) lv (.ref q :: st) (xup h q (xO ci fs)) (nc + 1) (ns + N)) : XA l Z y cc nL ret hh d mc ms Q X pc lv st h nc ns := by
  intro D cA ws0 p e s m args below meth c H locs ws ls C hP hD hC hS hl
  obtain ⟨Cn, T, ty, ⟨hc, hin, hty, hnm⟩, w1, w2, w3, hdf⟩ := hsite
  have hts := C.2.2.2.2.2.1
  refine va_new (ci := ci) C.1 C.2.1 hts (fun w hw9 => List.mem_cons_of_mem _ (hin w hw9)) ty hty C.2.2.2.2.1 (hts _ (List.mem_cons_of_mem _ w1)) (hts _ (List.mem_cons_of_mem _ w2)) (hts _ (List.mem_cons_of_mem _ w3)) C.2.2.2.2.2.2.2.2.1 hP hD hS (fun q hq => Or.inr hq) hc hdf hc9 hs9 hdg (fun q H1 hP1 hD1 hS1 => ?_)
  exact k q (xNone (D := D) hC hD1) D cA ws0 p e s m args below meth c H1 locs _ ls C hP1 hD1 (xCov.push (e := xO ci fs) hC) hS1 hl
theorem xArr {D : va_G} {cA : Nat → ClassId} {t : Nat} {ty : FieldType} {U : State} {cB : ClassId} (hK : va_K D vwCl (xtys cA ++ [(cB, ty)]) U) (ht : (xtys cA)[t]? = some (cA t, ty)) (hty : ∀ C, ty ≠ .object C) : cB = cA t := by
  have h1 := (hK.2 (xtys cA).length (cB, ty) (by simp)).2
  have h2 := (hK.2 t (cA t, ty) (by rw [List.getElem?_append_left (List.getElem?_eq_some_iff.mp ht).1]; exact ht)).2
  cases ty <;> first | exact absurd rfl (hty _) | exact Option.some.inj (h1.symm.trans h2)
theorem xArrO {D : va_G} {cA : Nat → ClassId} {U : State} {cB : ClassId} (hK : va_K D vwCl (xtys cA ++ [(cB, .object RX10)]) U) : cB = cA 4 := by
  obtain ⟨_, _, _, _, _, h1⟩ := (hK.2 (xtys cA).length (cB, .object RX10) (by simp)).2
  obtain ⟨_, _, _, _, _, h2⟩ := (hK.2 4 (cA 4, .object RX10) rfl).2
  exact Option.some.inj (h1.symm.trans h2)
theorem XA.newI {n : Int32} {N : Nat} (hw : Cond.arrayClass .int ∈ xg) (hdg : decode cc pc = .ok (.newarray .int, 2)) (hn : ¬ n < 0) (hN : n.toNatClampNeg = N) (hb : N ≤ 100000000) (hc9 : nc + 1 ≤ mc) (hs9 : ns + N ≤ ms) (k : ∀ q : Nat, h q = none → XA l Z y cc nL ret hh d mc ms Q X (pc + 2) lv (.ref q :: st) (xup h q (xI 0 N (fun _ => 0))) (nc + 1) (ns + N)) : XA l Z y cc nL ret hh d mc ms Q X pc lv (.int n :: st) h nc ns := by
  intro D cA ws0 p e s m args below meth c H locs ws ls C hP hD hC hS hl
  refine va_newa (atype := .int) C.1 C.2.1 (C.2.2.2.2.2.1 _ (List.mem_cons_of_mem _ hw)) rfl C.2.2.2.2.2.2.2.2.1 hP hD hS (fun q hq => Or.inr hq) (a0 := (N, .inl (fun _ => 0))) (fun _ => rfl) hn hN (by show N * 4 ≤ _; omega) hc9 hs9 hdg (fun q cB H1 hK1 hP1 hD1 hS1 => ?_)
  have he := xArr (t := 0) hK1 rfl (fun _ z => by cases z)
  subst he
  exact k q (xNone (D := D) hC hD1) D cA ws0 p e s m args below meth c H1 locs _ ls C hP1 hD1 (xCov.push (e := xI 0 N (fun _ => 0)) hC) hS1 hl
theorem XA.newC {n : Int32} {N : Nat} (hw : Cond.arrayClass .char ∈ xg) (hdg : decode cc pc = .ok (.newarray .char, 2)) (hn : ¬ n < 0) (hN : n.toNatClampNeg = N) (hb : N ≤ 100000000) (hc9 : nc + 1 ≤ mc) (hs9 : ns + N ≤ ms) (k : ∀ q : Nat, h q = none → XA l Z y cc nL ret hh d mc ms Q X (pc + 2) lv (.ref q :: st) (xup h q (xI 2 N (fun _ => 0))) (nc + 1) (ns + N)) : XA l Z y cc nL ret hh d mc ms Q X pc lv (.int n :: st) h nc ns := by
  intro D cA ws0 p e s m args below meth c H locs ws ls C hP hD hC hS hl
  refine va_newa (atype := .char) C.1 C.2.1 (C.2.2.2.2.2.1 _ (List.mem_cons_of_mem _ hw)) rfl C.2.2.2.2.2.2.2.2.1 hP hD hS (fun q hq => Or.inr hq) (a0 := (N, .inl (fun _ => 0))) (fun _ => rfl) hn hN (by show N * 2 ≤ _; omega) hc9 hs9 hdg (fun q cB H1 hK1 hP1 hD1 hS1 => ?_)
  have he := xArr (t := 2) hK1 rfl (fun _ z => by cases z)
  subst he
  exact k q (xNone (D := D) hC hD1) D cA ws0 p e s m args below meth c H1 locs _ ls C hP1 hD1 (xCov.push (e := xI 2 N (fun _ => 0)) hC) hS1 hl
theorem XA.newZ {n : Int32} {N : Nat} (hw : Cond.arrayClass .boolean ∈ xg) (hdg : decode cc pc = .ok (.newarray .boolean, 2)) (hn : ¬ n < 0) (hN : n.toNatClampNeg = N) (hb : N ≤ 100000000) (hc9 : nc + 1 ≤ mc) (hs9 : ns + N ≤ ms) (k : ∀ q : Nat, h q = none → XA l Z y cc nL ret hh d mc ms Q X (pc + 2) lv (.ref q :: st) (xup h q (xI 3 N (fun _ => 0))) (nc + 1) (ns + N)) : XA l Z y cc nL ret hh d mc ms Q X pc lv (.int n :: st) h nc ns := by
  intro D cA ws0 p e s m args below meth c H locs ws ls C hP hD hC hS hl
  refine va_newa (atype := .boolean) C.1 C.2.1 (C.2.2.2.2.2.1 _ (List.mem_cons_of_mem _ hw)) rfl C.2.2.2.2.2.2.2.2.1 hP hD hS (fun q hq => Or.inr hq) (a0 := (N, .inl (fun _ => 0))) (fun _ => rfl) hn hN (by show N * 1 ≤ _; omega) hc9 hs9 hdg (fun q cB H1 hK1 hP1 hD1 hS1 => ?_)
  have he := xArr (t := 3) hK1 rfl (fun _ z => by cases z)
  subst he
  exact k q (xNone (D := D) hC hD1) D cA ws0 p e s m args below meth c H1 locs _ ls C hP1 hD1 (xCov.push (e := xI 3 N (fun _ => 0)) hC) hS1 hl
theorem XA.mmax {index : Nat} {x z : Int32} (hw : Cond.methodLink y.cls index Lib.Math.max.name ∈ xg ∧ Cond.static Lib.Math.max.name ∈ xg ∧ Cond.initialized "java/lang/Math" ∈ xg ∧ Cond.code Lib.Math.max.name Lib.Math.max.code 2 (some .int) ∈ xg) (hdg : decode cc pc = .ok (.invokestatic index, 3)) (hcat : (st.map fun v => v.category).sum ≤ 8) (hc9 : nc ≤ mc) (hs9 : ns ≤ ms) (k : XA l Z y cc nL ret hh d mc ms Q X (pc + 3) lv (.int (if x < z then z else x) :: st) h nc ns) : XA l Z y cc nL ret hh d mc ms Q X pc lv (.int z :: .int x :: st) h nc ns := by
  intro D cA ws0 p e s m args below meth c H locs ws ls C hP hD hC hS hl
  have hts := C.2.2.2.2.2.1
  exact va_mmax C.1 C.2.1 (C.2.2.1.trans hl.1.symm) C.2.2.2.2.1 (hts _ (List.mem_cons_of_mem _ hw.1)) (hts _ (List.mem_cons_of_mem _ hw.2.1)) (hts _ (List.mem_cons_of_mem _ hw.2.2.1)) (hts _ (List.mem_cons_of_mem _ hw.2.2.2)) (by show 1 ≤ d + 12; omega) (by show _ ≤ 41 * d + 524; omega) hc9 hs9 hdg (k D cA ws0 p e s m args below meth c H locs ws ls C hP hD hC hS hl)
theorem XA.mmin {index : Nat} {x z : Int32} (hw : Cond.methodLink y.cls index Lib.Math.min.name ∈ xg ∧ Cond.static Lib.Math.min.name ∈ xg ∧ Cond.initialized "java/lang/Math" ∈ xg ∧ Cond.code Lib.Math.min.name Lib.Math.min.code 2 (some .int) ∈ xg) (hdg : decode cc pc = .ok (.invokestatic index, 3)) (hcat : (st.map fun v => v.category).sum ≤ 8) (hc9 : nc ≤ mc) (hs9 : ns ≤ ms) (k : XA l Z y cc nL ret hh d mc ms Q X (pc + 3) lv (.int (if z < x then z else x) :: st) h nc ns) : XA l Z y cc nL ret hh d mc ms Q X pc lv (.int z :: .int x :: st) h nc ns := by
  intro D cA ws0 p e s m args below meth c H locs ws ls C hP hD hC hS hl
  have hts := C.2.2.2.2.2.1
  exact va_mmin C.1 C.2.1 (C.2.2.1.trans hl.1.symm) C.2.2.2.2.1 (hts _ (List.mem_cons_of_mem _ hw.1)) (hts _ (List.mem_cons_of_mem _ hw.2.1)) (hts _ (List.mem_cons_of_mem _ hw.2.2.1)) (hts _ (List.mem_cons_of_mem _ hw.2.2.2)) (by show 1 ≤ d + 12; omega) (by show _ ≤ 41 * d + 524; omega) hc9 hs9 hdg (k D cA ws0 p e s m args below meth c H locs ws ls C hP hD hC hS hl)
theorem XA.mabs {index : Nat} {x : Int32} (hw : Cond.methodLink y.cls index Lib.Math.abs.name ∈ xg ∧ Cond.static Lib.Math.abs.name ∈ xg ∧ Cond.initialized "java/lang/Math" ∈ xg ∧ Cond.code Lib.Math.abs.name Lib.Math.abs.code 1 (some .int) ∈ xg) (hdg : decode cc pc = .ok (.invokestatic index, 3)) (hcat : (st.map fun v => v.category).sum ≤ 8) (hc9 : nc ≤ mc) (hs9 : ns ≤ ms) (k : XA l Z y cc nL ret hh d mc ms Q X (pc + 3) lv (.int (if 0 ≤ x then x else 0 - x) :: st) h nc ns) : XA l Z y cc nL ret hh d mc ms Q X pc lv (.int x :: st) h nc ns := by
  intro D cA ws0 p e s m args below meth c H locs ws ls C hP hD hC hS hl
  have hts := C.2.2.2.2.2.1
  exact va_mabs C.1 C.2.1 (C.2.2.1.trans hl.1.symm) C.2.2.2.2.1 (hts _ (List.mem_cons_of_mem _ hw.1)) (hts _ (List.mem_cons_of_mem _ hw.2.1)) (hts _ (List.mem_cons_of_mem _ hw.2.2.1)) (hts _ (List.mem_cons_of_mem _ hw.2.2.2)) (by show 1 ≤ d + 12; omega) (by show _ ≤ 41 * d + 524; omega) hc9 hs9 hdg (k D cA ws0 p e s m args below meth c H locs ws ls C hP hD hC hS hl)
/-- System.arraycopy over two rows of one kind (0 int, 2 char) -/
theorem XA.copy {index t a0 a1 n0 n1 : Nat} {f g : Nat → Int32} {sp dp n : Int32} (ht9 : t = 0 ∨ t = 2) (hw : Cond.methodLink y.cls index arraycopyName ∈ xg ∧ Cond.native arraycopyName ∈ xg ∧ Cond.static arraycopyName ∈ xg ∧ Cond.initialized "java/lang/System" ∈ xg) (hdg : decode cc pc = .ok (.invokestatic index, 3)) (ha0 : h a0 = some (xI t n0 f)) (ha1 : h a1 = some (xI t n1 g))
    (h1 : ¬ sp < 0) (h2 : ¬ dp < 0) (h3 : ¬ n < 0) (h4 : sp.toNatClampNeg + n.toNatClampNeg ≤ n0) (h5 : dp.toNatClampNeg + n.toNatClampNeg ≤ n1) (hfit : ∀ i, i < n.toNatClampNeg → t = 2 → fits .char (.int (f (sp.toNatClampNeg + i))) = true) (hcat : (st.map fun v => v.category).sum ≤ 8)
    (k : XA l Z y cc nL ret hh d mc ms Q X (pc + 3) lv st (xup h a1 (xI t n1 (va_cpy f g sp.toNatClampNeg dp.toNatClampNeg n.toNatClampNeg))) nc ns) : XA l Z y cc nL ret hh d mc ms Q X pc lv (.int n :: .int dp :: .ref a1 :: .int sp :: .ref a0 :: st) h nc ns := by
  intro D cA ws0 p e s m args below meth c H locs ws ls C hP hD hC hS hl
  have hts := C.2.2.2.2.2.1
  obtain ⟨q0, he0⟩ := hC _ _ ha0
  obtain ⟨q1, he1⟩ := hC _ _ ha1
  rcases ht9 with rfl | rfl
  · exact va_copyi (ty := .int) C.1 C.2.1 (C.2.2.1.trans hl.1.symm) C.2.2.2.2.1 (hts _ (List.mem_cons_of_mem _ hw.1)) (hts _ (List.mem_cons_of_mem _ hw.2.1)) (hts _ (List.mem_cons_of_mem _ hw.2.2.1)) (hts _ (List.mem_cons_of_mem _ hw.2.2.2)) C.2.2.2.2.2.2.2.2.1 hP hD hS q0 q1 0 0 he0 he1 rfl rfl rfl h1 h2 h3 h4 h5 (fun i _ => rfl) (by show 1 ≤ d + 12; omega) (by show _ + (nativeFrameWords "java/lang/System" "arraycopy" 5 + 11) ≤ 41 * d + 524; have : nativeFrameWords "java/lang/System" "arraycopy" 5 ≤ 100 := (by decide +kernel); omega) hdg (fun H1 locs1 hP1 hD1 hS1 => k D cA ws0 p e s m args below meth c H1 locs1 _ ls C hP1 hD1 (xCov.set (D := D) (e := xI 0 n1 _) hC hD he1) hS1 hl)
  · exact va_copyi (ty := .char) C.1 C.2.1 (C.2.2.1.trans hl.1.symm) C.2.2.2.2.1 (hts _ (List.mem_cons_of_mem _ hw.1)) (hts _ (List.mem_cons_of_mem _ hw.2.1)) (hts _ (List.mem_cons_of_mem _ hw.2.2.1)) (hts _ (List.mem_cons_of_mem _ hw.2.2.2)) C.2.2.2.2.2.2.2.2.1 hP hD hS q0 q1 2 2 he0 he1 rfl rfl rfl h1 h2 h3 h4 h5 (fun i hi => hfit i hi rfl) (by show 1 ≤ d + 12; omega) (by show _ + (nativeFrameWords "java/lang/System" "arraycopy" 5 + 11) ≤ 41 * d + 524; have : nativeFrameWords "java/lang/System" "arraycopy" 5 ≤ 100 := (by decide +kernel); omega) hdg (fun H1 locs1 hP1 hD1 hS1 => k D cA ws0 p e s m args below meth c H1 locs1 _ ls C hP1 hD1 (xCov.set (D := D) (e := xI 2 n1 _) hC hD he1) hS1 hl)
theorem XA.ldcS {index i : Nat} {tx : String} (hw : (y.cls, index, tx, i) ∈ xstr) (hdg : decode cc pc = .ok (.ldc index, 2)) (k : XA l Z y cc nL ret hh d mc ms Q X (pc + 2) lv (.ref (Z.2.1 i) :: st) h nc ns) : XA l Z y cc nL ret hh d mc ms Q X pc lv st h nc ns := by
  intro D cA ws0 p e s m args below meth c H locs ws ls C hP hD hC hS hl
  exact va_ldcS C.1 C.2.1 C.2.2.2.2.1 (C.2.2.2.2.2.2.2.2.2.2.1.2.1 _ hw) hdg (k D cA ws0 p e s m args below meth c H locs ws ls C hP hD hC hS hl)
def XSiteSN (own : String) (index : Nat) (y2 : MethodName) (cc2 : ByteArray) (nL2 : Nat) (ret2 : Option FieldType) (n : Nat) : Prop :=
  (∃ host : String, Cond.methodLinkNest own index y2 host ∈ lw_tbl) ∧ Cond.static y2 ∈ xg ∧ Cond.initialized y2.cls ∈ xg ∧ Cond.code y2 cc2 nL2 ret2 ∈ xg ∧ (y2.cls ≠ "java/lang/invoke/MethodHandle" ∧ y2.cls ≠ "java/lang/invoke/VarHandle" ∧ (parseMethodDescriptor y2.desc).map (fun d => d.parameters.length) = some n)
theorem XA.callSN {index n nL2 d2 mc2 ms2 : Nat} {y2 : MethodName} {cc2 : ByteArray} {ret2 : Option FieldType} {As : List Value} {Q2 : Option Value → XH → Prop} {X2 : String → XH → Prop} (hM : XMet l Z y2 cc2 nL2 ret2 [] d2 mc2 ms2 As h Q2 X2) (hsite : XSiteSN y.cls index y2 cc2 nL2 ret2 n) (hdg : decode cc pc = .ok (.invokestatic index, 3)) (hst : rest = As.reverse ++ st) (hd : d2 + 1 ≤ d) (hn2 : nL2 ≤ 22) (hlen : As.length = n) (hcat : (st.map fun v => v.category).sum ≤ 8) (hc9 : nc + mc2 ≤ mc) (hs9 : ns + ms2 ≤ ms) (kx : ∀ E h', X2 E h' → XT l Z y cc nL ret hh d mc ms Q X pc lv st h' E (nc + mc2) (ns + ms2)) (kk : ∀ v h', Q2 v h' → XA l Z y cc nL ret hh d mc ms Q X (pc + 3) lv (v.toList ++ st) h' (nc + mc2) (ns + ms2)) : XA l Z y cc nL ret hh d mc ms Q X pc lv rest h nc ns := by
  intro D cA ws0 p e s m args below meth c H locs ws ls C hP hD hC hS hl
  obtain ⟨⟨host, w1⟩, w2, w3, w4, hdd⟩ := hsite
  have hts := C.2.2.2.2.2.1
  refine xCall (a := As.toArray) (h := h) C hD hS hl (vx_runSN (host := host) (As := As) (rest := st) ⟨C.1, C.2.1, C.2.2.1, C.2.2.2.2.1, hts⟩ (hM C.2.2.2.2.2.2.2.2.2.2.2.1 D cA ws H.size) ⟨va_cnB n hts (xGood w4) rfl rfl rfl (C.2.2.2.2.2.2.2.2.2.2.1.1 _ w1 rfl) (hts _ (List.mem_cons_of_mem _ w3)) hdd (xRoom hd hn2), hts _ (List.mem_cons_of_mem _ w2), trivial⟩ ⟨xPre_blind, xIn C hP hD hC hS⟩ rfl hlen hl.1 hst (lv_room (st := st) (m := m) (pc := pc) (ls := ls) (rest := rest) hcat) hdg ⟨hc9, hs9⟩) hc9 hs9 kx kk
theorem XA.objInit {index a : Nat} (hw : Cond.methodLink y.cls index objectInit ∈ xg ∧ Cond.instanceMethod objectInit ∈ xg ∧ Cond.code objectInit ⟨#[0xb1]⟩ 1 none ∈ xg) (hdg : decode cc pc = .ok (.invokespecial index, 3)) (hcat : (st.map fun v => v.category).sum ≤ 8) (k : XA l Z y cc nL ret hh d mc ms Q X (pc + 3) lv st h nc ns) : XA l Z y cc nL ret hh d mc ms Q X pc lv (.ref a :: st) h nc ns := by
  intro D cA ws0 p e s m args below meth c H locs ws ls C hP hD hC hS hl
  have hts := C.2.2.2.2.2.1
  exact W.objInit C.1 C.2.1 C.2.2.2.2.1 (hts _ (List.mem_cons_of_mem _ hw.1)) (hts _ (List.mem_cons_of_mem _ hw.2.1)) (hts _ (List.mem_cons_of_mem _ hw.2.2)) (g := F0 m pc ls (.ref a :: st)) rfl (hl.1.trans C.2.2.1.symm) rfl hdg (by show 1 ≤ d + 12; omega) (by show 2 * 0 + _ + 12 ≤ 41 * d + 524; omega) (k D cA ws0 p e s m args below meth c H locs ws ls C hP hD hC hS hl)
theorem XA.anew {index : Nat} {n : Int32} {N : Nat} (hw : Cond.classLink y.cls index RX10 ∈ xg) (hdg : decode cc pc = .ok (.anewarray index, 3)) (hn : ¬ n < 0) (hN : n.toNatClampNeg = N) (hb : N ≤ 100000000) (hc9 : nc + 1 ≤ mc) (hs9 : ns + N ≤ ms) (k : ∀ q : Nat, h q = none → XA l Z y cc nL ret hh d mc ms Q X (pc + 3) lv (.ref q :: st) (xup h q (xR N (fun _ => none))) (nc + 1) (ns + N)) : XA l Z y cc nL ret hh d mc ms Q X pc lv (.int n :: st) h nc ns := by
  intro D cA ws0 p e s m args below meth c H locs ws ls C hP hD hC hS hl
  have hts := C.2.2.2.2.2.1
  refine va_newq C.1 C.2.1 C.2.2.2.2.1 (hts _ (List.mem_cons_of_mem _ hw)) C.2.2.2.2.2.2.2.2.2.2.1.2.2.1 C.2.2.2.2.2.2.2.2.1 hP hD hS (fun q hq => Or.inr hq) hn hN (by omega) hc9 hs9 hdg (fun q cB H1 hK1 hP1 hD1 hS1 => ?_)
  have he := xArrO hK1
  subst he
  exact k q (xNone (D := D) hC hD1) D cA ws0 p e s m args below meth c H1 locs _ ls C hP1 hD1 (xCov.push (e := xR N (fun _ => none)) hC) hS1 hl
theorem XA.ishr {x z : Int32} (hdg : decode cc pc = .ok (.ishr, 1)) (k : XA l Z y cc nL ret hh d mc ms Q X (pc + 1) lv (.int (x >>> (z &&& 31)) :: st) h nc ns) : XA l Z y cc nL ret hh d mc ms Q X pc lv (.int z :: .int x :: st) h nc ns := by
  intro D cA ws0 p e s m args below meth c H locs ws ls C hP hD hC hS hl
  exact lv_ishr C.1 C.2.1 hdg (k D cA ws0 p e s m args below meth c H locs ws ls C hP hD hC hS hl)
theorem XA.getsC {index : Nat} (hw : Cond.fieldLink y.cls index "java/lang/String" "COMPACT_STRINGS" "Z" ∈ xg) (hdg : decode cc pc = .ok (.getstatic index, 3)) (k : XA l Z y cc nL ret hh d mc ms Q X (pc + 3) lv (.int 1 :: st) h nc ns) : XA l Z y cc nL ret hh d mc ms Q X pc lv st h nc ns := by
  intro D cA ws0 p e s m args below meth c H locs ws ls C hP hD hC hS hl
  exact va_gets C.1 C.2.1 C.2.2.2.2.2.2.2.2.2.1.2.2.2.1 hS C.2.2.2.2.1 (C.2.2.2.2.2.1 _ (List.mem_cons_of_mem _ hw)) (fun _ q => q) hdg (k D cA ws0 p e s m args below meth c H locs ws ls C hP hD hC hS hl)
theorem XA.getsF {index : Nat} (hw : Cond.fieldLink y.cls index "jdk/internal/util/Preconditions" "SIOOBE_FORMATTER" "Ljava/util/function/BiFunction;" ∈ xg) (hdg : decode cc pc = .ok (.getstatic index, 3)) (k : ∀ v : Value, (v = .null ∨ ∃ t : Nat, v = .ref t) → XA l Z y cc nL ret hh d mc ms Q X (pc + 3) lv (v :: st) h nc ns) : XA l Z y cc nL ret hh d mc ms Q X pc lv st h nc ns := by
  intro D cA ws0 p e s m args below meth c H locs ws ls C hP hD hC hS hl
  have hw9 := C.2.2.2.2.2.1 _ (List.mem_cons_of_mem _ hw)
  rcases C.2.2.2.2.2.2.2.2.2.1.2.2.2.2.1 with hz | ⟨t, hz⟩
  · exact va_gets C.1 C.2.1 hz hS C.2.2.2.2.1 hw9 (fun _ q => q) hdg (k _ (Or.inl rfl) D cA ws0 p e s m args below meth c H locs ws ls C hP hD hC hS hl)
  · exact va_gets C.1 C.2.1 hz hS C.2.2.2.2.1 hw9 (fun _ q => q) hdg (k _ (Or.inr ⟨t, rfl⟩) D cA ws0 p e s m args below meth c H locs ws ls C hP hD hC hS hl)
theorem XA.strC {index i : Nat} (hi : i < xN) (hw : Cond.fieldLink y.cls index "java/lang/String" "coder" "B" ∈ xg) (hdg : decode cc pc = .ok (.getfield index, 3)) (k : XA l Z y cc nL ret hh d mc ms Q X (pc + 3) lv (.int 0 :: st) h nc ns) : XA l Z y cc nL ret hh d mc ms Q X pc lv (.ref (Z.2.1 i) :: st) h nc ns := by
  intro D cA ws0 p e s m args below meth c H locs ws ls C hP hD hC hS hl
  exact vk_getf C.1 C.2.1 (C.2.2.2.2.2.2.2.2.2.1.2.2.1.1 i hi).2.1 hS C.2.2.2.2.1 (C.2.2.2.2.2.1 _ (List.mem_cons_of_mem _ hw)) (fun _ q => q) hdg (k D cA ws0 p e s m args below meth c H locs ws ls C hP hD hC hS hl)
theorem XA.strV {index i : Nat} (hi : i < xN) (hw : Cond.fieldLink y.cls index "java/lang/String" "value" "[B" ∈ xg) (hdg : decode cc pc = .ok (.getfield index, 3)) (k : XA l Z y cc nL ret hh d mc ms Q X (pc + 3) lv (.ref (Z.2.2 i) :: st) h nc ns) : XA l Z y cc nL ret hh d mc ms Q X pc lv (.ref (Z.2.1 i) :: st) h nc ns := by
  intro D cA ws0 p e s m args below meth c H locs ws ls C hP hD hC hS hl
  exact vk_getf C.1 C.2.1 (C.2.2.2.2.2.2.2.2.2.1.2.2.1.1 i hi).2.2.1 hS C.2.2.2.2.1 (C.2.2.2.2.2.1 _ (List.mem_cons_of_mem _ hw)) (fun _ q => q) hdg (k D cA ws0 p e s m args below meth c H locs ws ls C hP hD hC hS hl)
theorem XA.strL {i : Nat} (hi : i < xN) {v : Int32} (hv : Int32.ofNat (xlen.getD i 0) = v) (hdg : decode cc pc = .ok (.arraylength, 1)) (k : XA l Z y cc nL ret hh d mc ms Q X (pc + 1) lv (.int v :: st) h nc ns) : XA l Z y cc nL ret hh d mc ms Q X pc lv (.ref (Z.2.2 i) :: st) h nc ns := by
  intro D cA ws0 p e s m args below meth c H locs ws ls C hP hD hC hS hl
  exact va_tlen C.1 C.2.1 (C.2.2.2.2.2.2.2.2.2.1.2.2.1.1 i hi).2.2.2 hS hv hdg (k D cA ws0 p e s m args below meth c H locs ws ls C hP hD hC hS hl)
theorem XA.strB {i : Nat} (hi : i < xN) {j v : Int32} (hj : vp_in j (xlen.getD i 0)) (hv : (xbyt.getD i []).getD j.toNatClampNeg 0 = v) (hdg : decode cc pc = .ok (.baload, 1)) (k : XA l Z y cc nL ret hh d mc ms Q X (pc + 1) lv (.int v :: st) h nc ns) : XA l Z y cc nL ret hh d mc ms Q X pc lv (.int j :: .ref (Z.2.2 i) :: st) h nc ns := by
  intro D cA ws0 p e s m args below meth c H locs ws ls C hP hD hC hS hl
  exact va_tb C.1 C.2.1 (C.2.2.2.2.2.2.2.2.2.1.2.2.1.1 i hi).2.2.2 hS hj (by rw [hv]) hdg (k D cA ws0 p e s m args below meth c H locs ws ls C hP hD hC hS hl)
/-- a method of a String constant -/
theorem XA.callStr {index i n nL2 d2 mc2 ms2 : Nat} {y2 : MethodName} {cc2 : ByteArray} {ret2 : Option FieldType} {As : List Value} {Q2 : Option Value → XH → Prop} {X2 : String → XH → Prop} (hi : i < xN) (hM : XMet l Z y2 cc2 nL2 ret2 [] d2 mc2 ms2 (.ref (Z.2.1 i) :: As) h Q2 X2) (hsite : XSiteV y.cls index "java/lang/String" y2 cc2 nL2 ret2 n) (hdg : decode cc pc = .ok (.invokevirtual index, 3)) (hst : rest = As.reverse ++ .ref (Z.2.1 i) :: st) (hd : d2 + 1 ≤ d) (hn2 : nL2 ≤ 22) (hlen : As.length = n) (hcat : (st.map fun v => v.category).sum ≤ 8) (hc9 : nc + mc2 ≤ mc) (hs9 : ns + ms2 ≤ ms) (kx : ∀ E h', X2 E h' → XT l Z y cc nL ret hh d mc ms Q X pc lv st h' E (nc + mc2) (ns + ms2)) (kk : ∀ v h', Q2 v h' → XA l Z y cc nL ret hh d mc ms Q X (pc + 3) lv (v.toList ++ st) h' (nc + mc2) (ns + ms2)) : XA l Z y cc nL ret hh d mc ms Q X pc lv rest h nc ns := by
  intro D cA ws0 p e s m args below meth c H locs ws ls C hP hD hC hS hl
  obtain ⟨w1, w2, w3, w4, w5, hdd⟩ := hsite
  have hts := C.2.2.2.2.2.1
  have hgw : GoodIn (xw y cc nL ret hh) (wsV y.cls index "java/lang/String" y2 (xw y2 cc2 nL2 ret2 [])) := by
    intro w hw
    rcases List.mem_append.mp hw with hw | hw
    · simp only [List.mem_cons, List.not_mem_nil, or_false] at hw
      rcases hw with rfl | rfl | rfl | rfl
      · exact ⟨List.mem_cons_of_mem _ w1, xg_good w1⟩
      · exact ⟨List.mem_cons_of_mem _ w2, xg_good w2⟩
      · exact ⟨List.mem_cons_of_mem _ w3, xg_good w3⟩
      · exact ⟨List.mem_cons_of_mem _ w4, xg_good w4⟩
    · exact xGood w5 w hw
  refine xCall (a := (Value.ref (Z.2.1 i) :: As).toArray) (h := h) C hD hS hl (vx_runV (As := As) (rest := st) ⟨C.1, C.2.1, C.2.2.1, C.2.2.2.2.1, hts⟩ (hM C.2.2.2.2.2.2.2.2.2.2.2.1 D cA ws H.size) (cwV n hts hgw rfl rfl rfl hdd (xRoom hd hn2)) ⟨xPre_blind, vk_recv C.2.2.2.2.2.2.2.2.2.1.2.2.1 hi hS, xIn C hP hD hC hS⟩ rfl hlen hl.1 hst (lv_room (st := st) (m := m) (pc := pc) (ls := ls) (rest := rest) hcat) hdg ⟨hc9, hs9⟩) hc9 hs9 kx kk
/-- the script -/
theorem XA.sld {i v : Int32} (hin : vp_in i Z.1.2.1) (hv : Z.1.2.2 i.toNatClampNeg = v) (hdg : decode cc pc = .ok (.iaload, 1)) (k : XA l Z y cc nL ret hh d mc ms Q X (pc + 1) lv (.int v :: st) h nc ns) : XA l Z y cc nL ret hh d mc ms Q X pc lv (.int i :: .ref Z.1.1 :: st) h nc ns := by
  subst hv
  intro D cA ws0 p e s m args below meth c H locs ws ls C hP hD hC hS hl
  obtain ⟨-, -, -, -, -, hX, hb1, hb2⟩ := C.2.2.2.2.2.2.2.2.2.1
  exact va_sld C.1 C.2.1 hX hb1 hb2 hS hin hdg (k D cA ws0 p e s m args below meth c H locs ws ls C hP hD hC hS hl)
theorem XA.slen {v : Int32} (hv : Int32.ofNat Z.1.2.1 = v) (hdg : decode cc pc = .ok (.arraylength, 1)) (k : XA l Z y cc nL ret hh d mc ms Q X (pc + 1) lv (.int v :: st) h nc ns) : XA l Z y cc nL ret hh d mc ms Q X pc lv (.ref Z.1.1 :: st) h nc ns := by
  intro D cA ws0 p e s m args below meth c H locs ws ls C hP hD hC hS hl
  obtain ⟨-, -, -, -, -, hX, hb1, hb2⟩ := C.2.2.2.2.2.2.2.2.2.1
  subst hv
  exact va_slen C.1 C.2.1 hX hb1 hb2 hS hdg (k D cA ws0 p e s m args below meth c H locs ws ls C hP hD hC hS hl)
/-- a static method with a table of its own -/
def XSiteW (own : String) (index : Nat) (y2 : MethodName) (cc2 : ByteArray) (nL2 : Nat) (ret2 : Option FieldType) (hh2 : List (Nat × Nat × Nat × Nat)) (n : Nat) : Prop :=
  Cond.methodLink own index y2 ∈ xg ∧ Cond.static y2 ∈ xg ∧ Cond.initialized y2.cls ∈ xg ∧ Cond.codeWith y2 cc2 nL2 ret2 hh2 ∈ xg ∧ (y2.cls ≠ "java/lang/invoke/MethodHandle" ∧ y2.cls ≠ "java/lang/invoke/VarHandle" ∧ (parseMethodDescriptor y2.desc).map (fun d => d.parameters.length) = some n)
theorem XA.callW {index n nL2 d2 mc2 ms2 : Nat} {y2 : MethodName} {cc2 : ByteArray} {ret2 : Option FieldType} {q0 : Nat × Nat × Nat × Nat} {hr : List (Nat × Nat × Nat × Nat)} {As : List Value} {Q2 : Option Value → XH → Prop} {X2 : String → XH → Prop} (hM : XMet l Z y2 cc2 nL2 ret2 (q0 :: hr) d2 mc2 ms2 As h Q2 X2) (hsite : XSiteW y.cls index y2 cc2 nL2 ret2 (q0 :: hr) n) (hdg : decode cc pc = .ok (.invokestatic index, 3)) (hst : rest = As.reverse ++ st) (hd : d2 + 1 ≤ d) (hn2 : nL2 ≤ 22) (hlen : As.length = n) (hcat : (st.map fun v => v.category).sum ≤ 8) (hc9 : nc + mc2 ≤ mc) (hs9 : ns + ms2 ≤ ms)
    (kx : ∀ E h', X2 E h' → XT l Z y cc nL ret hh d mc ms Q X pc lv st h' E (nc + mc2) (ns + ms2)) (kk : ∀ v h', Q2 v h' → XA l Z y cc nL ret hh d mc ms Q X (pc + 3) lv (v.toList ++ st) h' (nc + mc2) (ns + ms2)) : XA l Z y cc nL ret hh d mc ms Q X pc lv rest h nc ns := by
  intro D cA ws0 p e s m args below meth c H locs ws ls C hP hD hC hS hl
  obtain ⟨w1, w2, w3, w4, hdd⟩ := hsite
  have hts := C.2.2.2.2.2.1
  have hG : GoodIn (xw y cc nL ret hh) (xw y2 cc2 nL2 ret2 (q0 :: hr)) := by
    intro w hw
    rcases List.mem_cons.mp hw with rfl | hw
    · exact ⟨List.mem_cons_of_mem _ w4, xg_good w4⟩
    · exact ⟨List.mem_cons_of_mem _ hw, xg_good hw⟩
  have hgw : GoodIn (xw y cc nL ret hh) (va_wsS y.cls index y2 (xw y2 cc2 nL2 ret2 (q0 :: hr))) := by
    intro w hw
    rcases List.mem_append.mp hw with hw | hw
    · simp only [List.mem_cons, List.not_mem_nil, or_false] at hw
      rcases hw with rfl | rfl | rfl
      · exact ⟨List.mem_cons_of_mem _ w1, xg_good w1⟩
      · exact ⟨List.mem_cons_of_mem _ w2, xg_good w2⟩
      · exact ⟨List.mem_cons_of_mem _ w3, xg_good w3⟩
    · exact hG w hw
  refine xCall (a := As.toArray) (h := h) C hD hS hl (vx_runSX (As := As) (rest := st) ⟨C.1, C.2.1, C.2.2.1, C.2.2.2.2.1, hts⟩ (hM C.2.2.2.2.2.2.2.2.2.2.2.1 D cA ws H.size) (vx_cwSW n hts hgw rfl rfl rfl hdd (xRoom hd hn2)) ⟨xPre_blind, xIn C hP hD hC hS⟩ rfl hlen hl.1 hst (lv_room (st := st) (m := m) (pc := pc) (ls := ls) (rest := rest) hcat) hdg ⟨hc9, hs9⟩) hc9 hs9 kx kk
end XR
