/-! THE W LAYER: longs as whole numbers, switches by keys, copies of rows, null, documents, throws -/
theorem K_toInt {z : Int} (h : inl z) : (K z).toInt = z := Int64.toInt_ofInt_of_le (by have := h.1; omega) (by have := h.2; omega)
theorem K_add (a b : Int) : K a + K b = K (a + b) := (Int64.ofInt_add a b).symm
theorem K_sub (a b : Int) : K a - K b = K (a - b) := (Int64.ofInt_sub a b).symm
theorem K_mul (a b : Int) : K a * K b = K (a * b) := (Int64.ofInt_mul a b).symm
theorem K_of (v : Int64) : K v.toInt = v := Int64.ofInt_toInt v
theorem J_K {z : Int} (h : inr z) : (J z).toInt64 = K z := Int32.toInt64_ofInt (by show (-2147483648 : Int) ≤ z; exact h.1) (by show z ≤ (2147483647 : Int); have := h.2; omega)
theorem K_J (z : Int) : (K z).toInt32 = J z := Int64.toInt32_ofInt
theorem div_in {a : Int} (ha : inl a) (k : Nat) : inl (a / ((2 ^ k : Nat) : Int)) := by
  have h2 : (1 : Int) ≤ ((2 ^ k : Nat) : Int) := by have := Nat.one_le_two_pow (n := k); omega
  have h3 := ha.1
  have h4 := ha.2
  generalize ((2 ^ k : Nat) : Int) = c at h2
  constructor
  · rw [Int.le_ediv_iff_mul_le (by omega)]
    omega
  · rw [Int.ediv_lt_iff_lt_mul (by omega)]
    omega
theorem K_shr {a s : Int} (ha : inl a) (hs : 0 ≤ s ∧ s < 64) : K a >>> ((J s).toInt64 &&& 63) = K (a / ((2 ^ s.toNat : Nat) : Int)) := by
  obtain ⟨k, rfl⟩ := Int.eq_ofNat_of_zero_le hs.1
  have hk : k < 64 := by omega
  have hd : ((J (k : Int)).toInt64 &&& 63) = K (k : Int) := by
    have : ∀ k : Nat, k < 64 → ((J (k : Int)).toInt64 &&& 63) = K (k : Int) := by decide +kernel
    exact this k hk
  have hm : (((K (k : Int)).toBitVec.smod 64).toNat) = k := by
    have : ∀ k : Nat, k < 64 → (((K (k : Int)).toBitVec.smod 64).toNat) = k := by decide +kernel
    exact this k hk
  rw [hd]
  apply Int64.toInt_inj.mp
  show ((K a).toBitVec.sshiftRight ((K (k : Int)).toBitVec.smod 64).toNat).toInt = _
  rw [hm, BitVec.toInt_sshiftRight]
  have e : (K a).toBitVec.toInt = a := K_toInt ha
  rw [e, Int.shiftRight_eq_div_pow, Int.toNat_natCast, K_toInt (div_in ha k)]
theorem K_ushr {a s : Int} (hs : 0 ≤ s ∧ s < 64) : ((K a).toUInt64 >>> ((J s).toInt64.toUInt64 &&& Int64.toUInt64 63)).toInt64 = K (a % 18446744073709551616 / ((2 ^ s.toNat : Nat) : Int)) := by
  obtain ⟨k, rfl⟩ := Int.eq_ofNat_of_zero_le hs.1
  have hk : k < 64 := by omega
  have hm : (((J (k : Int)).toInt64.toUInt64 &&& Int64.toUInt64 63).toBitVec % 64).toNat = k := by
    have : ∀ k : Nat, k < 64 → (((J (k : Int)).toInt64.toUInt64 &&& Int64.toUInt64 63).toBitVec % 64).toNat = k := by decide +kernel
    exact this k hk
  apply Int64.toBitVec_inj.mp
  apply BitVec.eq_of_toNat_eq
  have e : ((K a).toUInt64 >>> ((J (k : Int)).toInt64.toUInt64 &&& Int64.toUInt64 63)).toInt64.toBitVec = (K a).toBitVec >>> k := by
    conv => rhs; rw [← hm]
    exact UInt64.toBitVec_shiftRight _ _
  rw [e, BitVec.toNat_ushiftRight, Nat.shiftRight_eq_div_pow]
  have e1 : (K a).toBitVec.toNat = (a % 18446744073709551616).toNat := by
    show (BitVec.ofInt 64 a).toNat = _
    rw [BitVec.toNat_ofInt]
    rfl
  have e2 : ∀ b : Int, (K b).toBitVec.toNat = (b % 18446744073709551616).toNat := by
    intro b
    show (BitVec.ofInt 64 b).toNat = _
    rw [BitVec.toNat_ofInt]
    rfl
  rw [e1, e2, Int.toNat_natCast]
  have h0 : 0 ≤ a % 18446744073709551616 := Int.emod_nonneg _ (by decide)
  have h1 : a % 18446744073709551616 < 18446744073709551616 := Int.emod_lt_of_pos _ (by decide)
  obtain ⟨m, hm2⟩ := Int.eq_ofNat_of_zero_le h0
  rw [hm2] at h1 ⊢
  have h3 : m / 2 ^ k ≤ m := Nat.div_le_self _ _
  have h4 : ((m : Int) / ((2 ^ k : Nat) : Int)) = ((m / 2 ^ k : Nat) : Int) := (Int.natCast_ediv _ _).symm
  have h5 : (m : Int).toNat / 2 ^ k = m / 2 ^ k := rfl
  rw [h4, h5]
  generalize m / 2 ^ k = q at h3 ⊢
  omega
theorem K_and (a : Int) : K a &&& K 255 = K (a % 256) := by
  apply Int64.toBitVec_inj.mp
  apply BitVec.eq_of_toNat_eq
  rw [Int64.toBitVec_and, BitVec.toNat_and]
  have e2 : ∀ b : Int, (K b).toBitVec.toNat = (b % 18446744073709551616).toNat := by
    intro b
    show (BitVec.ofInt 64 b).toNat = _
    rw [BitVec.toNat_ofInt]
    rfl
  have e3 : (K 255).toBitVec.toNat = 2 ^ 8 - 1 := by decide
  rw [e3, Nat.and_two_pow_sub_one_eq_mod, e2, e2]
  omega
theorem K_cmp {a b : Int} (ha : inl a) (hb : inl b) : (if K a > K b then (1 : Int32) else if K a == K b then 0 else -1) = J (lsg a b) := by
  unfold lsg
  by_cases h : b < a
  · rw [if_pos h, if_pos (by show K b < K a; rw [Int64.lt_iff_toInt_lt, K_toInt ha, K_toInt hb]; exact h)]
    rfl
  · rw [if_neg h, if_neg (by show ¬ K b < K a; rw [Int64.lt_iff_toInt_lt, K_toInt ha, K_toInt hb]; exact h)]
    by_cases e : a = b
    · subst e
      rw [if_pos rfl, if_pos (by simp)]
      rfl
    · rw [if_neg e, if_neg]
      · rfl
      · intro h2
        have h3 : K a = K b := by simpa using h2
        rw [← Int64.toInt_inj, K_toInt ha, K_toInt hb] at h3
        exact e h3
theorem J_fits {z : Int} (h : 0 ≤ z ∧ z < 65536) : fits .char (.int (J z)) = true := by
  obtain ⟨n, rfl⟩ := Int.eq_ofNat_of_zero_le h.1
  have e : J (n : Int) = nI n := Int32.ofInt_eq_ofNat
  rw [e]
  exact (pk_charN (q := n) (by omega)).2
def lkno : List (Int × Int) → Int → Prop
  | [], _ => True
  | p :: r, a => ¬ a = p.1 ∧ lkno r a
theorem look_no : ∀ {ps : List (Int × Int)} {d a : Int}, lkno ps a → Op.lookupswitch.offset ps d a = d
  | [], d, a, _ => rfl
  | (b, o) :: r, d, a, h => by
    rw [Op.lookupswitch.offset_cons, if_neg]
    · exact look_no h.2
    · intro q
      exact h.1 (by first | exact q | exact q.symm)
def xseg : List Cond := (((lw_tbl.drop 828).take 84 ++ (lw_tbl.drop 104).take 14) ++ (lw_tbl.drop 1080).take 17) ++ (lw_tbl.drop 1368).take 18
theorem xseg_in {w : Cond} (h : w ∈ xseg) : w ∈ lw_tbl := by
  rcases List.mem_append.mp h with h | h
  · rcases List.mem_append.mp h with h | h
    · rcases List.mem_append.mp h with h | h
      · exact List.mem_of_mem_drop (List.mem_of_mem_take h)
      · exact List.mem_of_mem_drop (List.mem_of_mem_take h)
    · exact List.mem_of_mem_drop (List.mem_of_mem_take h)
  · exact List.mem_of_mem_drop (List.mem_of_mem_take h)
theorem xexS {own : String} {ik ic : Nat} {E : String} {names : List String} (h1 : Bundle.fit E = true) (h2 : ∀ n ∈ names, Bundle.fit n = true) (w1 : Cond.classLink own ik E ∈ xg) (w2 : Cond.initialized E ∈ xg) (hb : (vx_at0 own ic E names).all (fun w => xseg.elem w && (goodWord w || (xisN w && w.onTables))) = true) (h3 : (Cond.classLink own ik E :: Cond.initialized E :: vx_at0 own ic E names).all (fun w => vx_ot w) = true) : XSiteX own ik ic E names := by
  refine ⟨h1, h2, w1, w2, fun w hw => ?_, fun w hw => List.all_eq_true.mp h3 w hw⟩
  have h4 := List.all_eq_true.mp hb w hw
  simp only [Bool.and_eq_true, Bool.or_eq_true] at h4
  exact ⟨xseg_in (List.mem_of_elem_eq_true h4.1), h4.2⟩
theorem J_and {a : Int} : J a &&& J 255 = J (a % 256) := by
  have h := pk_and (J a) (m := J 255) 8 (by decide)
  rw [h]
  have e : (J a).toBitVec.toNat = (a % 4294967296).toNat := by
    show (BitVec.ofInt 32 a).toNat = _
    rw [BitVec.toNat_ofInt]
    rfl
  rw [e]
  have e2 : nI ((a % 4294967296).toNat % 2 ^ 8) = J (((a % 4294967296).toNat % 2 ^ 8 : Nat) : Int) := Int32.ofInt_eq_ofNat.symm
  rw [e2]
  congr 1
  omega
theorem XA.lcmp {l : Launch} {Z : XZ} {y : MethodName} {cc : ByteArray} {nL : Nat} {ret : Option FieldType} {hh : List (Nat × Nat × Nat × Nat)} {d mc ms : Nat} {Q : Option Value → XH → Prop} {X : String → XH → Prop} {pc : Nat} {lv : List (Nat × Value)} {st : List Value} {h : XH} {nc ns : Nat} {x z : Int64} {v : Int32} (hdg : decode cc pc = .ok (.lcmp, 1)) (hv : (if x > z then (1 : Int32) else if x == z then 0 else -1) = v) (k : XA l Z y cc nL ret hh d mc ms Q X (pc + 1) lv (.int v :: st) h nc ns) : XA l Z y cc nL ret hh d mc ms Q X pc lv (.long z :: .long x :: st) h nc ns := by
  intro D cA ws0 p e s m args below meth c H locs ws ls C hP hD hC hS hl
  have k2 := k D cA ws0 p e s m args below meth c H locs ws ls C hP hD hC hS hl
  have hexec := C.1
  have hb := C.2.1
  intro T hT X
  obtain ⟨t, a, b⟩ := k2 T hT X
  refine ⟨t, ?_, b⟩
  jvm_step X.here [X.here.top, hexec, hb, hdg]
  by_cases h1 : z < x
  · have e : v = 1 := hv.symm.trans (if_pos h1)
    subst e
    rw [if_pos h1]
    exact a
  · rw [if_neg h1]
    by_cases h2 : x = z
    · have e : v = 0 := hv.symm.trans ((if_neg h1).trans (if_pos (by simp [h2])))
      subst e
      rw [if_pos h2]
      exact a
    · have e : v = -1 := hv.symm.trans ((if_neg h1).trans (if_neg (by simp [h2])))
      subst e
      rw [if_neg h2]
      exact a
theorem cpy_J {f g : Nat → Int} {a b n : Nat} : va_cpy (fun k => J (f k)) (fun k => J (g k)) a b n = fun k => J (va_cpy f g a b n k) := by
  funext k
  unfold va_cpy
  split <;> rfl
theorem J_nneg {z : Int} (h : 0 ≤ z ∧ z < 2147483648) : ¬ J z < 0 := by
  have := J_lt (a := z) (b := 0) ⟨by omega, h.2⟩ ⟨by omega, by omega⟩
  intro q
  have := this.mp q
  omega
def exn (x : Int) : String := if x = exB + 1 then "java/lang/IllegalArgumentException" else if x = exB + 2 then "java/lang/IllegalStateException" else "java/lang/IndexOutOfBoundsException"
def exc (x : Int) : Nat := if x < exB then 0 else 1
def exs (x : Int) : Nat := if x < exB then 0 else 6
theorem exc_0 {x : Int} (h : x < exB) : exc x = 0 := if_pos h
theorem exs_0 {x : Int} (h : x < exB) : exs x = 0 := if_pos h
theorem exc_1 {x : Int} (h : ¬ x < exB) : exc x = 1 := if_neg h
theorem exs_6 {x : Int} (h : ¬ x < exB) : exs x = 6 := if_neg h
theorem exn_1 : exn (exB + 1) = "java/lang/IllegalArgumentException" := by decide +kernel
theorem exn_2 : exn (exB + 2) = "java/lang/IllegalStateException" := by decide +kernel
theorem exn_3 : exn (exB + 3) = "java/lang/IndexOutOfBoundsException" := by decide +kernel
theorem gsG {L : Nat → Nat} {I : Nat → Int} {B : Nat → Bool} {R : Nat → Nat} {c : Nat} (h : c = 480 ∨ c = 481) : gsh L c I B R = some (xJ 0 100 I) := by rcases h with rfl | rfl <;> rfl
def xnms : List String := ["java/lang/RuntimeException", "java/lang/Exception"]
set_option maxRecDepth 100000 in
theorem xx_X11_117_119 : XSiteX RX11 117 119 "java/lang/IllegalArgumentException" xnms := xexS (by decide +kernel) (by decide +kernel) xcl_X11_117 (xgi 107 rfl rfl) (by decide +kernel) (by decide +kernel)
set_option maxRecDepth 100000 in
theorem xx_X11_124_126 : XSiteX RX11 124 126 "java/lang/IllegalStateException" xnms := xexS (by decide +kernel) (by decide +kernel) xcl_X11_124 (xgi 109 rfl rfl) (by decide +kernel) (by decide +kernel)
set_option maxRecDepth 100000 in
theorem xx_X11_137_139 : XSiteX RX11 137 139 "java/lang/IndexOutOfBoundsException" xnms := xexS (by decide +kernel) (by decide +kernel) xcl_X11_137 (xgi 108 rfl rfl) (by decide +kernel) (by decide +kernel)
section WR
variable {l : Launch} {Z : XZ} {L : Nat → Nat} {y : MethodName} {cc : ByteArray} {nL : Nat} {ret : Option FieldType} {hh : List (Nat × Nat × Nat × Nat)} {d mc ms : Nat} {q : Option Value → GS → Prop} {qx : String → GS → Prop} {pc : Nat} {f : GL} {st rest : List Value} {S S1 : GS} {nc ns : Nat} {x : Int}
theorem GV.look {dflt : Int} {ps : Array (Int × Int)} {len : Nat} {a : Int} {off : Int} {tgt : Nat} (ha9 : inr a) (hdg : decode cc pc = .ok (.lookupswitch dflt ps, len)) (hp : (ps.toList.zip (ps.toList.drop 1)).all (fun (a, next) => a.1 < next.1) = true) (ho : Op.lookupswitch.offset ps.toList dflt a = off) (ht : (pc : Int) + off = (tgt : Int)) (k : GA l Z L y cc nL ret hh d mc ms q qx (tgt) f (st) S nc ns) : GA l Z L y cc nL ret hh d mc ms q qx (pc) f (.int (J a) :: st) S nc ns := GA.lookup hdg hp (by rw [J_toInt ha9]; exact ho) ht k
theorem GV.lconst {n : Fin 2} {z : Int} (hv : Int64.ofNat (n : Nat) = K z) (hdg : decode cc pc = .ok (.lconst n, 1)) (k : GA l Z L y cc nL ret hh d mc ms q qx (pc + 1) f (.long (K z) :: st) S nc ns) : GA l Z L y cc nL ret hh d mc ms q qx (pc) f (st) S nc ns := GA.lconst hdg hv k
theorem GV.ldc2 {index : Nat} {v : Int64} {z : Int} (he : v = K z) (hw : Cond.constantLong y.cls index v ∈ xg) (hdg : decode cc pc = .ok (.ldc2_w index, 3)) (k : GA l Z L y cc nL ret hh d mc ms q qx (pc + 3) f (.long (K z) :: st) S nc ns) : GA l Z L y cc nL ret hh d mc ms q qx (pc) f (st) S nc ns := GA.ldc2 hw hdg (by rw [he]; exact k)
theorem GV.ladd {a b : Int} (hx : a + b = x) (hdg : decode cc pc = .ok (.ladd, 1)) (k : GA l Z L y cc nL ret hh d mc ms q qx (pc + 1) f (.long (K x) :: st) S nc ns) : GA l Z L y cc nL ret hh d mc ms q qx (pc) f (.long (K b) :: .long (K a) :: st) S nc ns := by subst hx; refine GA.ladd hdg ?_; rw [K_add]; exact k
theorem GV.lsub {a b : Int} (hx : a - b = x) (hdg : decode cc pc = .ok (.lsub, 1)) (k : GA l Z L y cc nL ret hh d mc ms q qx (pc + 1) f (.long (K x) :: st) S nc ns) : GA l Z L y cc nL ret hh d mc ms q qx (pc) f (.long (K b) :: .long (K a) :: st) S nc ns := by subst hx; refine GA.lsub hdg ?_; rw [K_sub]; exact k
theorem GV.lmul {a b : Int} (hx : a * b = x) (hdg : decode cc pc = .ok (.lmul, 1)) (k : GA l Z L y cc nL ret hh d mc ms q qx (pc + 1) f (.long (K x) :: st) S nc ns) : GA l Z L y cc nL ret hh d mc ms q qx (pc) f (.long (K b) :: .long (K a) :: st) S nc ns := by subst hx; refine GA.lmul hdg ?_; rw [K_mul]; exact k
theorem GV.i2l {a : Int} (ha9 : inr a) (hdg : decode cc pc = .ok (.i2l, 1)) (k : GA l Z L y cc nL ret hh d mc ms q qx (pc + 1) f (.long (K a) :: st) S nc ns) : GA l Z L y cc nL ret hh d mc ms q qx (pc) f (.int (J a) :: st) S nc ns := GA.i2l hdg (J_K ha9) k
theorem GV.l2i {a : Int} (hdg : decode cc pc = .ok (.l2i, 1)) (k : GA l Z L y cc nL ret hh d mc ms q qx (pc + 1) f (.int (J a) :: st) S nc ns) : GA l Z L y cc nL ret hh d mc ms q qx (pc) f (.long (K a) :: st) S nc ns := GA.l2i hdg (K_J a) k
theorem GV.lshr {a s : Int} (ha9 : inl a) (hs9 : 0 ≤ s ∧ s < 64) (hx : a / ((2 ^ s.toNat : Nat) : Int) = x) (hdg : decode cc pc = .ok (.lshr, 1)) (k : GA l Z L y cc nL ret hh d mc ms q qx (pc + 1) f (.long (K x) :: st) S nc ns) : GA l Z L y cc nL ret hh d mc ms q qx (pc) f (.int (J s) :: .long (K a) :: st) S nc ns := by subst hx; exact GA.lshr hdg (K_shr ha9 hs9) k
theorem GV.lushr {a s : Int} (hs9 : 0 ≤ s ∧ s < 64) (hx : a % 18446744073709551616 / ((2 ^ s.toNat : Nat) : Int) = x) (hdg : decode cc pc = .ok (.lushr, 1)) (k : GA l Z L y cc nL ret hh d mc ms q qx (pc + 1) f (.long (K x) :: st) S nc ns) : GA l Z L y cc nL ret hh d mc ms q qx (pc) f (.int (J s) :: .long (K a) :: st) S nc ns := by subst hx; exact GA.lushr hdg (K_ushr hs9) k
theorem GV.land {a : Int} (hx : a % 256 = x) (hdg : decode cc pc = .ok (.land, 1)) (k : GA l Z L y cc nL ret hh d mc ms q qx (pc + 1) f (.long (K x) :: st) S nc ns) : GA l Z L y cc nL ret hh d mc ms q qx (pc) f (.long (K 255) :: .long (K a) :: st) S nc ns := by subst hx; refine GA.land hdg ?_; rw [K_and]; exact k
theorem GV.iand {a : Int} (hx : a % 256 = x) (hdg : decode cc pc = .ok (.iand, 1)) (k : GA l Z L y cc nL ret hh d mc ms q qx (pc + 1) f (.int (J x) :: st) S nc ns) : GA l Z L y cc nL ret hh d mc ms q qx (pc) f (.int (J 255) :: .int (J a) :: st) S nc ns := by subst hx; exact GA.iand hdg J_and k
theorem GV.lcmp {a b : Int} (ha9 : inl a) (hb9 : inl b) (hx : lsg a b = x) (hdg : decode cc pc = .ok (.lcmp, 1)) (k : GA l Z L y cc nL ret hh d mc ms q qx (pc + 1) f (.int (J x) :: st) S nc ns) : GA l Z L y cc nL ret hh d mc ms q qx (pc) f (.long (K b) :: .long (K a) :: st) S nc ns := by subst hx; exact fun h lv hG hf => XA.lcmp hdg (K_cmp ha9 hb9) (k h lv hG hf)
theorem GV.alenR {c n : Nat} {g : Nat → Option Nat} (hdg : decode cc pc = .ok (.arraylength, 1)) (hs : gsh L c (S.1 c) (S.2.1 c) (S.2.2 c) = some (xR n g)) (hc : c < 700) (k : GA l Z L y cc nL ret hh d mc ms q qx (pc + 1) f (.int (J n) :: st) S nc ns) : GA l Z L y cc nL ret hh d mc ms q qx (pc) f (.ref (L c) :: st) S nc ns := fun h lv hG hf => XA.alen (by decide) hdg (hG.2 c hc _ hs) (Int32.ofInt_eq_ofNat.symm) (k h lv hG hf)
theorem GV.doc {i : Int} (hi : 0 ≤ i ∧ i < 40) (hdg : decode cc pc = .ok (.aaload, 1)) (k : GA l Z L y cc nL ret hh d mc ms q qx (pc + 1) f (.ref (L (8 * i.toNat)) :: st) S nc ns) : GA l Z L y cc nL ret hh d mc ms q qx (pc) f (.int (J i) :: .ref (L 469) :: st) S nc ns := GA.aald (n := 40) (g := fun k => if k < 40 then some (L (8 * k)) else none) hdg rfl (by decide) ⟨hi.1, hi.2, by omega⟩ (if_pos (by omega)) k
theorem GV.copy {index c0 c1 t n0 n1 : Nat} {sp dp n : Int} (ht9 : t = 0 ∨ t = 2) (hg : 0 ≤ sp ∧ 0 ≤ dp ∧ 0 ≤ n ∧ sp + n ≤ (n0 : Int) ∧ dp + n ≤ (n1 : Int) ∧ n0 < 2147483648 ∧ n1 < 2147483648) (hfit : t = 2 → ∀ i, i < n.toNat → 0 ≤ S.1 c0 (sp.toNat + i) ∧ S.1 c0 (sp.toNat + i) < 65536) (hS : gCp S c1 c0 dp sp n = S1) (hw : Cond.methodLink y.cls index arraycopyName ∈ xg ∧ Cond.native arraycopyName ∈ xg ∧ Cond.static arraycopyName ∈ xg ∧ Cond.initialized "java/lang/System" ∈ xg) (hdg : decode cc pc = .ok (.invokestatic index, 3)) (hs0 : gsh L c0 (S.1 c0) (S.2.1 c0) (S.2.2 c0) = some (xJ t n0 (S.1 c0))) (hc0 : c0 < 700) (hs1 : ∀ g, gsh L c1 g (S.2.1 c1) (S.2.2 c1) = some (xJ t n1 g)) (hc1 : c1 < 700) (hcat : (st.map fun v => v.category).sum ≤ 8) (k : GA l Z L y cc nL ret hh d mc ms q qx (pc + 3) f (st) S1 nc ns) : GA l Z L y cc nL ret hh d mc ms q qx (pc) f (.int (J n) :: .int (J dp) :: .ref (L c1) :: .int (J sp) :: .ref (L c0) :: st) S nc ns := by
  subst hS
  obtain ⟨g1, g2, g3, g4, g5, g6, g7⟩ := hg
  intro h lv hG hf
  have e1 := J_nat g1 (by omega)
  have e2 := J_nat g2 (by omega)
  have e3 := J_nat g3 (by omega)
  refine XA.copy ht9 hw hdg (hG.2 c0 hc0 _ hs0) (hG.2 c1 hc1 _ (hs1 _)) (J_nneg ⟨g1, by omega⟩) (J_nneg ⟨g2, by omega⟩) (J_nneg ⟨g3, by omega⟩) (by rw [e1, e3]; omega) (by rw [e2, e3]; omega) (fun i hi e => ?_) hcat ?_
  · rw [e3] at hi
    rw [e1]
    exact J_fits (hfit e i hi)
  · rw [e1, e2, e3, cpy_J]
    exact k _ lv (hG.up hc1 gIs_o (by
      show gsh L c1 ((gIs S c1 _).1 c1) _ _ = _
      rw [gIs_1]; exact hs1 _)) hf
theorem GA.aload_nN {k0 : Fin 4} (hdg : decode cc pc = .ok (.aload_n k0, 1)) (hv : f (k0 : Nat) = some .null) (k : GA l Z L y cc nL ret hh d mc ms q qx (pc + 1) f (.null :: st) S nc ns) : GA l Z L y cc nL ret hh d mc ms q qx (pc) f (st) S nc ns := by
  intro h lv hG hf D cA ws0 p e s m args below meth c H locs ws ls C hP hD hC hS hl
  exact lv_aload_nN C.1 C.2.1 hdg rfl (hl.2.2 _ (hf _ _ hv)) (k h lv hG hf D cA ws0 p e s m args below meth c H locs ws ls C hP hD hC hS hl)
theorem GA.astore_nN {k0 : Fin 4} (hdg : decode cc pc = .ok (.astore_n k0, 1)) (hn : (k0 : Nat) < nL) (k : GA l Z L y cc nL ret hh d mc ms q qx (pc + 1) (gst f (k0 : Nat) .null) (st) S nc ns) : GA l Z L y cc nL ret hh d mc ms q qx (pc) f (.null :: st) S nc ns := fun h lv hG hf => XA.astore_nN hdg hn rfl (k h _ hG (gst_in hf))
theorem GA.throw0 {ik ic : Nat} {E : String} {names : List String} (hsite : XSiteX y.cls ik ic E names) (hhh : hh = []) (hlen : names.length ≤ 8) (d0 : decode cc pc = .ok (.new ik, 3)) (d3 : decode cc (pc + 3) = .ok (.dup, 1)) (d4 : decode cc (pc + 4) = .ok (.invokespecial ic, 3)) (d7 : decode cc (pc + 7) = .ok (.athrow, 1)) (hcat : (st.map fun v => v.category).sum ≤ 8) (hc9 : nc + 1 ≤ mc) (hs9 : ns + 6 ≤ ms) (hx : qx E S) : GA l Z L y cc nL ret hh d mc ms q qx (pc) f (st) S nc ns := fun h lv hG hf => XA.throw0 hsite hhh hlen d0 d3 d4 d7 hcat hc9 hs9 ⟨S, hG, hx⟩
end WR
