/-! THE J LAYER: ints as images of whole numbers, booleans as images of Bool; rows of the X layer over them -/
abbrev J (z : Int) : Int32 := Int32.ofInt z
def xb (b : Bool) : Int32 := if b then 1 else 0
theorem xb_01 (b : Bool) : xb b = 0 ∨ xb b = 1 := by cases b <;> simp [xb]
theorem J_toInt {z : Int} (h : -2147483648 ≤ z ∧ z < 2147483648) : (J z).toInt = z := Int32.toInt_ofInt_of_le (by omega) (by omega)
theorem J_add (a b : Int) : J a + J b = J (a + b) := (Int32.ofInt_add a b).symm
theorem J_sub (a b : Int) : J a - J b = J (a - b) := (Int32.ofInt_sub a b).symm
theorem J_mul (a b : Int) : J a * J b = J (a * b) := (Int32.ofInt_mul a b).symm
theorem J_neg (a : Int) : - J a = J (-a) := (Int32.ofInt_neg a).symm
theorem J_le {a b : Int} (ha : -2147483648 ≤ a ∧ a < 2147483648) (hb : -2147483648 ≤ b ∧ b < 2147483648) : J a ≤ J b ↔ a ≤ b := by
  rw [Int32.le_iff_toInt_le, J_toInt ha, J_toInt hb]
theorem J_lt {a b : Int} (ha : -2147483648 ≤ a ∧ a < 2147483648) (hb : -2147483648 ≤ b ∧ b < 2147483648) : J a < J b ↔ a < b := by
  rw [Int32.lt_iff_toInt_lt, J_toInt ha, J_toInt hb]
theorem J_eq {a b : Int} (ha : -2147483648 ≤ a ∧ a < 2147483648) (hb : -2147483648 ≤ b ∧ b < 2147483648) : J a = J b ↔ a = b := by
  rw [← Int32.toInt_inj, J_toInt ha, J_toInt hb]
theorem J_of (x : Int32) : ∃ z : Int, x = J z ∧ -2147483648 ≤ z ∧ z < 2147483648 := by
  refine ⟨x.toInt, (Int32.ofInt_toInt x).symm, ?_, ?_⟩
  · have := Int32.le_toInt x; omega
  · have := Int32.toInt_lt x; omega
theorem J_nat {z : Int} (h0 : 0 ≤ z) (h : z < 2147483648) : (J z).toNatClampNeg = z.toNat := by
  show (J z).toInt.toNat = z.toNat
  rw [J_toInt ⟨by omega, h⟩]
theorem J_in {z : Int} {n : Nat} (h0 : 0 ≤ z) (h1 : z < (n : Int)) (hz : z < 2147483648) : vp_in (J z) n :=
  vp_in_iff.mpr (by rw [J_toInt ⟨by omega, hz⟩]; exact ⟨h0, h1⟩)
theorem J_div {a b : Int} (ha : 0 ≤ a ∧ a < 2147483648) (hb : 0 < b ∧ b < 2147483648) : J a / J b = J (a / b) := by
  obtain ⟨n, rfl⟩ := Int.eq_ofNat_of_zero_le ha.1
  obtain ⟨m, rfl⟩ := Int.eq_ofNat_of_zero_le (Int.le_of_lt hb.1)
  have h1 := pk_div (a := n) (d := m) (by omega) (by omega) (by omega)
  have e : ∀ k : Nat, J (k : Int) = nI k := fun k => Int32.ofInt_eq_ofNat
  rw [e, e, h1, ← e]
  rfl
theorem J_rem {a b : Int} (ha : 0 ≤ a ∧ a < 2147483648) (hb : 0 < b ∧ b < 2147483648) : J a - J a / J b * J b = J (a % b) := by
  obtain ⟨n, rfl⟩ := Int.eq_ofNat_of_zero_le ha.1
  obtain ⟨m, rfl⟩ := Int.eq_ofNat_of_zero_le (Int.le_of_lt hb.1)
  have h1 := pk_rem (a := n) (d := m) (by omega) (by omega) (by omega)
  have e : ∀ k : Nat, J (k : Int) = nI k := fun k => Int32.ofInt_eq_ofNat
  rw [e, e, h1, ← e]
  rfl
theorem J_char {z : Int} (h : 0 ≤ z ∧ z < 65536) : vp_nar .char (J z) = J z := by
  obtain ⟨n, rfl⟩ := Int.eq_ofNat_of_zero_le h.1
  have e : J (n : Int) = nI n := Int32.ofInt_eq_ofNat
  have h2 := (pk_charN (q := n) (by omega)).1
  rw [e]
  unfold vp_nar
  rw [h2]
theorem xb_nar (b : Bool) : vp_nar .boolean (xb b) = xb b := by cases b <;> decide +kernel
/-- rows of whole numbers: t 0 int, 2 char; rows of truths: 3 -/
abbrev xJ (t n : Nat) (g : Nat → Int) : XC := xI t n (fun k => J (g k))
abbrev xB (n : Nat) (g : Nat → Bool) : XC := xI 3 n (fun k => xb (g k))
theorem upd_J {g : Nat → Int} {i : Nat} {x : Int} : upd (fun k => J (g k)) i (J x) = fun k => J (xset g i x k) := by
  funext k
  unfold upd xset
  split <;> rfl
theorem upd_B {g : Nat → Bool} {i : Nat} {x : Bool} : upd (fun k => xb (g k)) i (xb x) = fun k => xb (xset g i x k) := by
  funext k
  unfold upd xset
  split <;> rfl
theorem J_i2c {z : Int} (h : 0 ≤ z ∧ z < 65536) : ((J z).toUInt32 % 65536).toInt32 = J z := by
  obtain ⟨n, rfl⟩ := Int.eq_ofNat_of_zero_le h.1
  have e : J (n : Int) = nI n := Int32.ofInt_eq_ofNat
  rw [e, pk_char, pk_tn (by omega), Nat.mod_eq_of_lt (by omega)]
theorem J_max {a b : Int} (ha : -2147483648 ≤ a ∧ a < 2147483648) (hb : -2147483648 ≤ b ∧ b < 2147483648) : (if J a < J b then J b else J a) = J (max a b) := by
  by_cases h : a < b
  · rw [if_pos ((J_lt ha hb).mpr h)]; congr 1; omega
  · rw [if_neg (fun z => h ((J_lt ha hb).mp z))]; congr 1; omega
theorem J_min {a b : Int} (ha : -2147483648 ≤ a ∧ a < 2147483648) (hb : -2147483648 ≤ b ∧ b < 2147483648) : (if J b < J a then J b else J a) = J (min a b) := by
  by_cases h : b < a
  · rw [if_pos ((J_lt hb ha).mpr h)]; congr 1; omega
  · rw [if_neg (fun z => h ((J_lt hb ha).mp z))]; congr 1; omega
theorem J_abs {a : Int} (ha : -2147483648 ≤ a ∧ a < 2147483648) : (if 0 ≤ J a then J a else 0 - J a) = J (max a (-a)) := by
  have h0 := J_le (a := 0) (b := a) (by omega) ha
  show (if J 0 ≤ J a then J a else J 0 - J a) = J (max a (-a))
  by_cases h : 0 ≤ a
  · rw [if_pos (h0.mpr h)]
    congr 1
    omega
  · rw [if_neg (fun z => h (h0.mp z)), J_sub]
    congr 1
    omega
section XJR
variable {l : Launch} {Z : XZ} {y : MethodName} {cc : ByteArray} {nL : Nat} {ret : Option FieldType} {hh : List (Nat × Nat × Nat × Nat)} {d mc ms : Nat} {Q : Option Value → XH → Prop} {X : String → XH → Prop} {pc : Nat} {lv lv' : List (Nat × Value)} {st rest : List Value} {h : XH} {nc ns : Nat}
theorem XJ.iadd {a b : Int} (hdg : decode cc pc = .ok (.iadd, 1)) (k : XA l Z y cc nL ret hh d mc ms Q X (pc + 1) lv (.int (J (a + b)) :: st) h nc ns) : XA l Z y cc nL ret hh d mc ms Q X pc lv (.int (J b) :: .int (J a) :: st) h nc ns := XA.iadd hdg (by rw [J_add]; exact k)
theorem XJ.isub {a b : Int} (hdg : decode cc pc = .ok (.isub, 1)) (k : XA l Z y cc nL ret hh d mc ms Q X (pc + 1) lv (.int (J (a - b)) :: st) h nc ns) : XA l Z y cc nL ret hh d mc ms Q X pc lv (.int (J b) :: .int (J a) :: st) h nc ns := XA.isub hdg (by rw [J_sub]; exact k)
theorem XJ.imul {a b : Int} (hdg : decode cc pc = .ok (.imul, 1)) (k : XA l Z y cc nL ret hh d mc ms Q X (pc + 1) lv (.int (J (a * b)) :: st) h nc ns) : XA l Z y cc nL ret hh d mc ms Q X pc lv (.int (J b) :: .int (J a) :: st) h nc ns := XA.imul hdg (by rw [J_mul]; exact k)
theorem XJ.ineg {a : Int} (hdg : decode cc pc = .ok (.ineg, 1)) (k : XA l Z y cc nL ret hh d mc ms Q X (pc + 1) lv (.int (J (-a)) :: st) h nc ns) : XA l Z y cc nL ret hh d mc ms Q X pc lv (.int (J a) :: st) h nc ns := XA.ineg hdg (by rw [J_neg]; exact k)
theorem XJ.idiv {a b : Int} (hdg : decode cc pc = .ok (.idiv, 1)) (ha9 : 0 ≤ a ∧ a < 2147483648) (hb9 : 0 < b ∧ b < 2147483648) (k : XA l Z y cc nL ret hh d mc ms Q X (pc + 1) lv (.int (J (a / b)) :: st) h nc ns) : XA l Z y cc nL ret hh d mc ms Q X pc lv (.int (J b) :: .int (J a) :: st) h nc ns := XA.idiv (fun z => by have := (J_eq (a := b) (b := 0) (by omega) (by omega)).mp z; omega) hdg (by rw [J_div ha9 hb9]; exact k)
theorem XJ.irem {a b : Int} (hdg : decode cc pc = .ok (.irem, 1)) (ha9 : 0 ≤ a ∧ a < 2147483648) (hb9 : 0 < b ∧ b < 2147483648) (k : XA l Z y cc nL ret hh d mc ms Q X (pc + 1) lv (.int (J (a % b)) :: st) h nc ns) : XA l Z y cc nL ret hh d mc ms Q X pc lv (.int (J b) :: .int (J a) :: st) h nc ns := XA.irem (fun z => by have := (J_eq (a := b) (b := 0) (by omega) (by omega)).mp z; omega) hdg (by rw [J_rem ha9 hb9]; exact k)
theorem XJ.iconst {n : Int} (hdg : decode cc pc = .ok (.iconst n, 1)) (k : XA l Z y cc nL ret hh d mc ms Q X (pc + 1) lv (.int (J n) :: st) h nc ns) : XA l Z y cc nL ret hh d mc ms Q X pc lv st h nc ns := XA.iconst hdg rfl k
theorem XJ.bipush {n : Int} (hdg : decode cc pc = .ok (.bipush n, 2)) (hv : (Int8.ofInt n).toInt32 = J n) (k : XA l Z y cc nL ret hh d mc ms Q X (pc + 2) lv (.int (J n) :: st) h nc ns) : XA l Z y cc nL ret hh d mc ms Q X pc lv st h nc ns := XA.bipush hdg hv k
theorem XJ.sipush {n : Int} (hdg : decode cc pc = .ok (.sipush n, 3)) (hv : (Int16.ofInt n).toInt32 = J n) (k : XA l Z y cc nL ret hh d mc ms Q X (pc + 3) lv (.int (J n) :: st) h nc ns) : XA l Z y cc nL ret hh d mc ms Q X pc lv st h nc ns := XA.sipush hdg hv k
theorem XJ.iinc {i : Nat} {n a : Int} (hdg : decode cc pc = .ok (.iinc i n, 3)) (hk : xlk lv i = some (.int (J a))) (hn : i < nL) (hv : xs1 lv i (.int (J (a + n))) = lv') (k : XA l Z y cc nL ret hh d mc ms Q X (pc + 3) lv' st h nc ns) : XA l Z y cc nL ret hh d mc ms Q X pc lv st h nc ns := XA.iinc hdg hk (J_add a n) hn hv k
theorem XJ.if_eq {a : Int} {off : Int} {tgt : Nat} (hdg : decode cc pc = .ok (.ifCond .eq off, 3)) (ht : (pc : Int) + off = (tgt : Int)) (ha9 : -2147483648 ≤ a ∧ a < 2147483648) (kt : a = 0 → XA l Z y cc nL ret hh d mc ms Q X tgt lv st h nc ns) (kf : a ≠ 0 → XA l Z y cc nL ret hh d mc ms Q X (pc + 3) lv st h nc ns) : XA l Z y cc nL ret hh d mc ms Q X pc lv (.int (J a) :: st) h nc ns := XA.if_eq hdg ht (fun c => kt ((J_eq (a := a) (b := 0) ha9 (by omega)).mp c)) (fun c => kf (fun z => c ((J_eq (a := a) (b := 0) ha9 (by omega)).mpr z)))
theorem XJ.icmp_eq {a b : Int} {off : Int} {tgt : Nat} (hdg : decode cc pc = .ok (.if_icmp .eq off, 3)) (ht : (pc : Int) + off = (tgt : Int)) (ha9 : -2147483648 ≤ a ∧ a < 2147483648) (hb9 : -2147483648 ≤ b ∧ b < 2147483648) (kt : a = b → XA l Z y cc nL ret hh d mc ms Q X tgt lv st h nc ns) (kf : a ≠ b → XA l Z y cc nL ret hh d mc ms Q X (pc + 3) lv st h nc ns) : XA l Z y cc nL ret hh d mc ms Q X pc lv (.int (J b) :: .int (J a) :: st) h nc ns := XA.icmp_eq hdg ht (fun c => kt ((J_eq ha9 hb9).mp c)) (fun c => kf (fun z => c ((J_eq ha9 hb9).mpr z)))
theorem XJ.if_ne {a : Int} {off : Int} {tgt : Nat} (hdg : decode cc pc = .ok (.ifCond .ne off, 3)) (ht : (pc : Int) + off = (tgt : Int)) (ha9 : -2147483648 ≤ a ∧ a < 2147483648) (kt : a ≠ 0 → XA l Z y cc nL ret hh d mc ms Q X tgt lv st h nc ns) (kf : a = 0 → XA l Z y cc nL ret hh d mc ms Q X (pc + 3) lv st h nc ns) : XA l Z y cc nL ret hh d mc ms Q X pc lv (.int (J a) :: st) h nc ns := XA.if_ne hdg ht (fun c => kt (fun z => c ((J_eq (a := a) (b := 0) ha9 (by omega)).mpr z))) (fun c => kf ((J_eq (a := a) (b := 0) ha9 (by omega)).mp c))
theorem XJ.icmp_ne {a b : Int} {off : Int} {tgt : Nat} (hdg : decode cc pc = .ok (.if_icmp .ne off, 3)) (ht : (pc : Int) + off = (tgt : Int)) (ha9 : -2147483648 ≤ a ∧ a < 2147483648) (hb9 : -2147483648 ≤ b ∧ b < 2147483648) (kt : a ≠ b → XA l Z y cc nL ret hh d mc ms Q X tgt lv st h nc ns) (kf : a = b → XA l Z y cc nL ret hh d mc ms Q X (pc + 3) lv st h nc ns) : XA l Z y cc nL ret hh d mc ms Q X pc lv (.int (J b) :: .int (J a) :: st) h nc ns := XA.icmp_ne hdg ht (fun c => kt (fun z => c ((J_eq ha9 hb9).mpr z))) (fun c => kf ((J_eq ha9 hb9).mp c))
theorem XJ.if_lt {a : Int} {off : Int} {tgt : Nat} (hdg : decode cc pc = .ok (.ifCond .lt off, 3)) (ht : (pc : Int) + off = (tgt : Int)) (ha9 : -2147483648 ≤ a ∧ a < 2147483648) (kt : a < 0 → XA l Z y cc nL ret hh d mc ms Q X tgt lv st h nc ns) (kf : 0 ≤ a → XA l Z y cc nL ret hh d mc ms Q X (pc + 3) lv st h nc ns) : XA l Z y cc nL ret hh d mc ms Q X pc lv (.int (J a) :: st) h nc ns := XA.if_lt hdg ht (fun c => kt ((J_lt (a := a) (b := 0) ha9 (by omega)).mp c)) (fun c => kf (Int.not_lt.mp (fun z => c ((J_lt (a := a) (b := 0) ha9 (by omega)).mpr z))))
theorem XJ.icmp_lt {a b : Int} {off : Int} {tgt : Nat} (hdg : decode cc pc = .ok (.if_icmp .lt off, 3)) (ht : (pc : Int) + off = (tgt : Int)) (ha9 : -2147483648 ≤ a ∧ a < 2147483648) (hb9 : -2147483648 ≤ b ∧ b < 2147483648) (kt : a < b → XA l Z y cc nL ret hh d mc ms Q X tgt lv st h nc ns) (kf : b ≤ a → XA l Z y cc nL ret hh d mc ms Q X (pc + 3) lv st h nc ns) : XA l Z y cc nL ret hh d mc ms Q X pc lv (.int (J b) :: .int (J a) :: st) h nc ns := XA.icmp_lt hdg ht (fun c => kt ((J_lt ha9 hb9).mp c)) (fun c => kf (Int.not_lt.mp (fun z => c ((J_lt ha9 hb9).mpr z))))
theorem XJ.if_ge {a : Int} {off : Int} {tgt : Nat} (hdg : decode cc pc = .ok (.ifCond .ge off, 3)) (ht : (pc : Int) + off = (tgt : Int)) (ha9 : -2147483648 ≤ a ∧ a < 2147483648) (kt : 0 ≤ a → XA l Z y cc nL ret hh d mc ms Q X tgt lv st h nc ns) (kf : a < 0 → XA l Z y cc nL ret hh d mc ms Q X (pc + 3) lv st h nc ns) : XA l Z y cc nL ret hh d mc ms Q X pc lv (.int (J a) :: st) h nc ns := XA.if_ge hdg ht (fun c => kt ((J_le (a := 0) (b := a) (by omega) ha9).mp c)) (fun c => kf (Int.not_le.mp (fun z => c ((J_le (a := 0) (b := a) (by omega) ha9).mpr z))))
theorem XJ.icmp_ge {a b : Int} {off : Int} {tgt : Nat} (hdg : decode cc pc = .ok (.if_icmp .ge off, 3)) (ht : (pc : Int) + off = (tgt : Int)) (ha9 : -2147483648 ≤ a ∧ a < 2147483648) (hb9 : -2147483648 ≤ b ∧ b < 2147483648) (kt : b ≤ a → XA l Z y cc nL ret hh d mc ms Q X tgt lv st h nc ns) (kf : a < b → XA l Z y cc nL ret hh d mc ms Q X (pc + 3) lv st h nc ns) : XA l Z y cc nL ret hh d mc ms Q X pc lv (.int (J b) :: .int (J a) :: st) h nc ns := XA.icmp_ge hdg ht (fun c => kt ((J_le hb9 ha9).mp c)) (fun c => kf (Int.not_le.mp (fun z => c ((J_le hb9 ha9).mpr z))))
theorem XJ.if_gt {a : Int} {off : Int} {tgt : Nat} (hdg : decode cc pc = .ok (.ifCond .gt off, 3)) (ht : (pc : Int) + off = (tgt : Int)) (ha9 : -2147483648 ≤ a ∧ a < 2147483648) (kt : 0 < a → XA l Z y cc nL ret hh d mc ms Q X tgt lv st h nc ns) (kf : a ≤ 0 → XA l Z y cc nL ret hh d mc ms Q X (pc + 3) lv st h nc ns) : XA l Z y cc nL ret hh d mc ms Q X pc lv (.int (J a) :: st) h nc ns := XA.if_gt hdg ht (fun c => kt ((J_lt (a := 0) (b := a) (by omega) ha9).mp c)) (fun c => kf (Int.not_lt.mp (fun z => c ((J_lt (a := 0) (b := a) (by omega) ha9).mpr z))))
theorem XJ.icmp_gt {a b : Int} {off : Int} {tgt : Nat} (hdg : decode cc pc = .ok (.if_icmp .gt off, 3)) (ht : (pc : Int) + off = (tgt : Int)) (ha9 : -2147483648 ≤ a ∧ a < 2147483648) (hb9 : -2147483648 ≤ b ∧ b < 2147483648) (kt : b < a → XA l Z y cc nL ret hh d mc ms Q X tgt lv st h nc ns) (kf : a ≤ b → XA l Z y cc nL ret hh d mc ms Q X (pc + 3) lv st h nc ns) : XA l Z y cc nL ret hh d mc ms Q X pc lv (.int (J b) :: .int (J a) :: st) h nc ns := XA.icmp_gt hdg ht (fun c => kt ((J_lt hb9 ha9).mp c)) (fun c => kf (Int.not_lt.mp (fun z => c ((J_lt hb9 ha9).mpr z))))
theorem XJ.if_le {a : Int} {off : Int} {tgt : Nat} (hdg : decode cc pc = .ok (.ifCond .le off, 3)) (ht : (pc : Int) + off = (tgt : Int)) (ha9 : -2147483648 ≤ a ∧ a < 2147483648) (kt : a ≤ 0 → XA l Z y cc nL ret hh d mc ms Q X tgt lv st h nc ns) (kf : 0 < a → XA l Z y cc nL ret hh d mc ms Q X (pc + 3) lv st h nc ns) : XA l Z y cc nL ret hh d mc ms Q X pc lv (.int (J a) :: st) h nc ns := XA.if_le hdg ht (fun c => kt ((J_le (a := a) (b := 0) ha9 (by omega)).mp c)) (fun c => kf (Int.not_le.mp (fun z => c ((J_le (a := a) (b := 0) ha9 (by omega)).mpr z))))
theorem XJ.icmp_le {a b : Int} {off : Int} {tgt : Nat} (hdg : decode cc pc = .ok (.if_icmp .le off, 3)) (ht : (pc : Int) + off = (tgt : Int)) (ha9 : -2147483648 ≤ a ∧ a < 2147483648) (hb9 : -2147483648 ≤ b ∧ b < 2147483648) (kt : a ≤ b → XA l Z y cc nL ret hh d mc ms Q X tgt lv st h nc ns) (kf : b < a → XA l Z y cc nL ret hh d mc ms Q X (pc + 3) lv st h nc ns) : XA l Z y cc nL ret hh d mc ms Q X pc lv (.int (J b) :: .int (J a) :: st) h nc ns := XA.icmp_le hdg ht (fun c => kt ((J_le ha9 hb9).mp c)) (fun c => kf (Int.not_le.mp (fun z => c ((J_le ha9 hb9).mpr z))))
theorem XJ.ifeqB {b : Bool} {off : Int} {tgt : Nat} (hdg : decode cc pc = .ok (.ifCond .eq off, 3)) (ht : (pc : Int) + off = (tgt : Int)) (kt : b = false → XA l Z y cc nL ret hh d mc ms Q X tgt lv st h nc ns) (kf : b = true → XA l Z y cc nL ret hh d mc ms Q X (pc + 3) lv st h nc ns) : XA l Z y cc nL ret hh d mc ms Q X pc lv (.int (xb b) :: st) h nc ns := XA.if_eq hdg ht (fun c => kt (by cases b; rfl; cases c)) (fun c => kf (by cases b; exact absurd rfl c; rfl))
theorem XJ.ifneB {b : Bool} {off : Int} {tgt : Nat} (hdg : decode cc pc = .ok (.ifCond .ne off, 3)) (ht : (pc : Int) + off = (tgt : Int)) (kt : b = true → XA l Z y cc nL ret hh d mc ms Q X tgt lv st h nc ns) (kf : b = false → XA l Z y cc nL ret hh d mc ms Q X (pc + 3) lv st h nc ns) : XA l Z y cc nL ret hh d mc ms Q X pc lv (.int (xb b) :: st) h nc ns := XA.if_ne hdg ht (fun c => kt (by cases b; exact absurd rfl c; rfl)) (fun c => kf (by cases b; rfl; cases c))
theorem XJ.iald {a n : Nat} {g : Nat → Int} {i : Int} (hdg : decode cc pc = .ok (.iaload, 1)) (ha : h a = some (xJ 0 n g)) (hi : 0 ≤ i ∧ i < (n : Int) ∧ i < 2147483648) (k : XA l Z y cc nL ret hh d mc ms Q X (pc + 1) lv (.int (J (g i.toNat)) :: st) h nc ns) : XA l Z y cc nL ret hh d mc ms Q X pc lv (.int (J i) :: .ref a :: st) h nc ns := XA.iald hdg ha (J_in hi.1 hi.2.1 hi.2.2) (by rw [J_nat hi.1 hi.2.2]) k
theorem XJ.cald {a n : Nat} {g : Nat → Int} {i : Int} (hdg : decode cc pc = .ok (.caload, 1)) (ha : h a = some (xJ 2 n g)) (hi : 0 ≤ i ∧ i < (n : Int) ∧ i < 2147483648) (k : XA l Z y cc nL ret hh d mc ms Q X (pc + 1) lv (.int (J (g i.toNat)) :: st) h nc ns) : XA l Z y cc nL ret hh d mc ms Q X pc lv (.int (J i) :: .ref a :: st) h nc ns := XA.cald hdg ha (J_in hi.1 hi.2.1 hi.2.2) (by rw [J_nat hi.1 hi.2.2]) k
theorem XJ.zald {a n : Nat} {g : Nat → Bool} {i : Int} (hdg : decode cc pc = .ok (.baload, 1)) (ha : h a = some (xB n g)) (hi : 0 ≤ i ∧ i < (n : Int) ∧ i < 2147483648) (k : XA l Z y cc nL ret hh d mc ms Q X (pc + 1) lv (.int (xb (g i.toNat)) :: st) h nc ns) : XA l Z y cc nL ret hh d mc ms Q X pc lv (.int (J i) :: .ref a :: st) h nc ns := XA.zald hdg ha (J_in hi.1 hi.2.1 hi.2.2) (by rw [J_nat hi.1 hi.2.2]) k
theorem XJ.iast {a n : Nat} {g : Nat → Int} {i x : Int} (hdg : decode cc pc = .ok (.iastore, 1)) (ha : h a = some (xJ 0 n g)) (hi : 0 ≤ i ∧ i < (n : Int) ∧ i < 2147483648) (k : XA l Z y cc nL ret hh d mc ms Q X (pc + 1) lv st (xup h a (xJ 0 n (xset g i.toNat x))) nc ns) : XA l Z y cc nL ret hh d mc ms Q X pc lv (.int (J x) :: .int (J i) :: .ref a :: st) h nc ns := XA.iast hdg ha (J_in hi.1 hi.2.1 hi.2.2) (by rw [J_nat hi.1 hi.2.2, upd_J]; exact k)
theorem XJ.cast {a n : Nat} {g : Nat → Int} {i x : Int} (hdg : decode cc pc = .ok (.castore, 1)) (ha : h a = some (xJ 2 n g)) (hi : 0 ≤ i ∧ i < (n : Int) ∧ i < 2147483648) (hx : 0 ≤ x ∧ x < 65536) (k : XA l Z y cc nL ret hh d mc ms Q X (pc + 1) lv st (xup h a (xJ 2 n (xset g i.toNat x))) nc ns) : XA l Z y cc nL ret hh d mc ms Q X pc lv (.int (J x) :: .int (J i) :: .ref a :: st) h nc ns := XA.cast hdg ha (J_in hi.1 hi.2.1 hi.2.2) (by rw [J_nat hi.1 hi.2.2, J_char hx, upd_J]; exact k)
theorem XJ.zast {a n : Nat} {g : Nat → Bool} {i : Int} {x : Bool} (hdg : decode cc pc = .ok (.bastore, 1)) (ha : h a = some (xB n g)) (hi : 0 ≤ i ∧ i < (n : Int) ∧ i < 2147483648) (k : XA l Z y cc nL ret hh d mc ms Q X (pc + 1) lv st (xup h a (xB n (xset g i.toNat x))) nc ns) : XA l Z y cc nL ret hh d mc ms Q X pc lv (.int (xb x) :: .int (J i) :: .ref a :: st) h nc ns := XA.zast hdg ha (J_in hi.1 hi.2.1 hi.2.2) (by rw [J_nat hi.1 hi.2.2, xb_nar, upd_B]; exact k)
theorem XJ.alen {a t n : Nat} {f : Nat → Int32} (ht9 : t < 5) (hdg : decode cc pc = .ok (.arraylength, 1)) (ha : h a = some (xI t n f)) (k : XA l Z y cc nL ret hh d mc ms Q X (pc + 1) lv (.int (J n) :: st) h nc ns) : XA l Z y cc nL ret hh d mc ms Q X pc lv (.ref a :: st) h nc ns := XA.alen ht9 hdg ha (Int32.ofInt_eq_ofNat.symm) k
theorem XJ.i2c {x : Int} (hdg : decode cc pc = .ok (.i2c, 1)) (hx : 0 ≤ x ∧ x < 65536) (k : XA l Z y cc nL ret hh d mc ms Q X (pc + 1) lv (.int (J x) :: st) h nc ns) : XA l Z y cc nL ret hh d mc ms Q X pc lv (.int (J x) :: st) h nc ns := XA.i2c hdg (J_i2c hx) k
theorem XJ.mmax {index : Nat} {a b : Int} (hw : Cond.methodLink y.cls index Lib.Math.max.name ∈ xg ∧ Cond.static Lib.Math.max.name ∈ xg ∧ Cond.initialized "java/lang/Math" ∈ xg ∧ Cond.code Lib.Math.max.name Lib.Math.max.code 2 (some .int) ∈ xg) (hdg : decode cc pc = .ok (.invokestatic index, 3)) (ha9 : -2147483648 ≤ a ∧ a < 2147483648) (hb9 : -2147483648 ≤ b ∧ b < 2147483648) (hcat : (st.map fun v => v.category).sum ≤ 8) (hc9 : nc ≤ mc) (hs9 : ns ≤ ms) (k : XA l Z y cc nL ret hh d mc ms Q X (pc + 3) lv (.int (J (max a b)) :: st) h nc ns) : XA l Z y cc nL ret hh d mc ms Q X pc lv (.int (J b) :: .int (J a) :: st) h nc ns := XA.mmax hw hdg hcat hc9 hs9 (by rw [J_max ha9 hb9]; exact k)
theorem XJ.mmin {index : Nat} {a b : Int} (hw : Cond.methodLink y.cls index Lib.Math.min.name ∈ xg ∧ Cond.static Lib.Math.min.name ∈ xg ∧ Cond.initialized "java/lang/Math" ∈ xg ∧ Cond.code Lib.Math.min.name Lib.Math.min.code 2 (some .int) ∈ xg) (hdg : decode cc pc = .ok (.invokestatic index, 3)) (ha9 : -2147483648 ≤ a ∧ a < 2147483648) (hb9 : -2147483648 ≤ b ∧ b < 2147483648) (hcat : (st.map fun v => v.category).sum ≤ 8) (hc9 : nc ≤ mc) (hs9 : ns ≤ ms) (k : XA l Z y cc nL ret hh d mc ms Q X (pc + 3) lv (.int (J (min a b)) :: st) h nc ns) : XA l Z y cc nL ret hh d mc ms Q X pc lv (.int (J b) :: .int (J a) :: st) h nc ns := XA.mmin hw hdg hcat hc9 hs9 (by rw [J_min ha9 hb9]; exact k)
theorem XJ.mabs {index : Nat} {a : Int} (hw : Cond.methodLink y.cls index Lib.Math.abs.name ∈ xg ∧ Cond.static Lib.Math.abs.name ∈ xg ∧ Cond.initialized "java/lang/Math" ∈ xg ∧ Cond.code Lib.Math.abs.name Lib.Math.abs.code 1 (some .int) ∈ xg) (hdg : decode cc pc = .ok (.invokestatic index, 3)) (ha9 : -2147483648 ≤ a ∧ a < 2147483648) (hcat : (st.map fun v => v.category).sum ≤ 8) (hc9 : nc ≤ mc) (hs9 : ns ≤ ms) (k : XA l Z y cc nL ret hh d mc ms Q X (pc + 3) lv (.int (J (max a (-a))) :: st) h nc ns) : XA l Z y cc nL ret hh d mc ms Q X pc lv (.int (J a) :: st) h nc ns := XA.mabs hw hdg hcat hc9 hs9 (by rw [J_abs ha9]; exact k)
theorem XJ.zret {b : Bool} (hr : ret = some .boolean) (hdg : decode cc pc = .ok (.ireturn, 1)) (hc9 : nc ≤ mc) (hs9 : ns ≤ ms) (hq : Q (some (.int (xb b))) h) : XA l Z y cc nL ret hh d mc ms Q X pc lv [.int (xb b)] h nc ns := XA.zret hr (by cases b <;> decide +kernel) hdg hc9 hs9 hq
theorem XJ.const1 (k : XA l Z y cc nL ret hh d mc ms Q X pc lv (.int (xb true) :: st) h nc ns) : XA l Z y cc nL ret hh d mc ms Q X pc lv (.int (J 1) :: st) h nc ns := k
theorem XJ.const0 (k : XA l Z y cc nL ret hh d mc ms Q X pc lv (.int (xb false) :: st) h nc ns) : XA l Z y cc nL ret hh d mc ms Q X pc lv (.int (J 0) :: st) h nc ns := k
end XJR
