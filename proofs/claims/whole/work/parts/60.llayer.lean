/-! THE L LAYER: the script, the law's row of one long, calls caught by the law -/
theorem J_and63 {a : Int} : J a &&& J 63 = J (a % 64) := by
  have h := pk_and (J a) (m := J 63) 6 (by decide)
  rw [h]
  have e : (J a).toBitVec.toNat = (a % 4294967296).toNat := by
    show (BitVec.ofInt 32 a).toNat = _
    rw [BitVec.toNat_ofInt]
    rfl
  rw [e]
  have e2 : nI ((a % 4294967296).toNat % 2 ^ 6) = J (((a % 4294967296).toNat % 2 ^ 6 : Nat) : Int) := Int32.ofInt_eq_ofNat.symm
  rw [e2]
  congr 1
  omega
theorem K_nat (b : Int) : (K b).toBitVec.toNat = (b % 18446744073709551616).toNat := by
  show (BitVec.ofInt 64 b).toNat = _
  rw [BitVec.toNat_ofInt]
  rfl
theorem K_shl32 (a : Int) : K a <<< ((J 32).toInt64 &&& 63) = K (a * 4294967296) := by
  have hd : ((J 32).toInt64 &&& 63) = K 32 := by decide +kernel
  have hm : (((K 32).toBitVec.smod 64).toNat) = 32 := by decide +kernel
  rw [hd]
  apply Int64.toBitVec_inj.mp
  apply BitVec.eq_of_toNat_eq
  show ((K a).toBitVec <<< ((K 32).toBitVec.smod 64).toNat).toNat = _
  rw [hm, BitVec.toNat_shiftLeft, Nat.shiftLeft_eq, K_nat, K_nat]
  omega
theorem K_and32 (a : Int) : K a &&& K 4294967295 = K (a % 4294967296) := by
  apply Int64.toBitVec_inj.mp
  apply BitVec.eq_of_toNat_eq
  rw [Int64.toBitVec_and, BitVec.toNat_and]
  have e3 : (K 4294967295).toBitVec.toNat = 2 ^ 32 - 1 := by decide +kernel
  rw [e3, Nat.and_two_pow_sub_one_eq_mod, K_nat, K_nat]
  omega
theorem K_or32 {a b : Int} (h : a % 4294967296 = 0 ∧ 0 ≤ b ∧ b < 4294967296) : K a ||| K b = K (a + b) := by
  obtain ⟨h1, h2, h3⟩ := h
  apply Int64.toBitVec_inj.mp
  apply BitVec.eq_of_toNat_eq
  rw [Int64.toBitVec_or, BitVec.toNat_or, K_nat, K_nat, K_nat]
  obtain ⟨c, hc⟩ : ∃ c : Nat, (a % 18446744073709551616).toNat = 2 ^ 32 * c := ⟨(a % 18446744073709551616).toNat / 2 ^ 32, by omega⟩
  have hb : (b % 18446744073709551616).toNat < 2 ^ 32 := by omega
  rw [hc, ← Nat.two_pow_add_eq_or_of_lt hb c]
  omega
theorem updL_K {g : Nat → Int} {i : Nat} {z : Int} : vp_updL (fun k => Int64.ofInt (g k)) i (K z) = fun k => Int64.ofInt (xset g i z k) := by
  funext k
  unfold vp_updL xset
  split <;> rfl
section LR
variable {l : Launch} {Z : XZ} {L : Nat → Nat} {y : MethodName} {cc : ByteArray} {nL : Nat} {ret : Option FieldType} {hh : List (Nat × Nat × Nat × Nat)} {d mc ms : Nat} {q : Option Value → GS → Prop} {qx : String → GS → Prop} {pc : Nat} {f : GL} {st rest : List Value} {S S1 : GS} {nc ns : Nat} {x : Int}
theorem GV.iand63 {a : Int} (hx : a % 64 = x) (hdg : decode cc pc = .ok (.iand, 1)) (k : GA l Z L y cc nL ret hh d mc ms q qx (pc + 1) f (.int (J x) :: st) S nc ns) : GA l Z L y cc nL ret hh d mc ms q qx (pc) f (.int (J 63) :: .int (J a) :: st) S nc ns := by subst hx; exact GA.iand hdg J_and63 k
theorem GV.lshl32 {a : Int} (hx : a * 4294967296 = x) (hdg : decode cc pc = .ok (.lshl, 1)) (k : GA l Z L y cc nL ret hh d mc ms q qx (pc + 1) f (.long (K x) :: st) S nc ns) : GA l Z L y cc nL ret hh d mc ms q qx (pc) f (.int (J 32) :: .long (K a) :: st) S nc ns := by subst hx; exact GA.lshl hdg (K_shl32 a) k
theorem GV.land32 {a : Int} (hx : a % 4294967296 = x) (hdg : decode cc pc = .ok (.land, 1)) (k : GA l Z L y cc nL ret hh d mc ms q qx (pc + 1) f (.long (K x) :: st) S nc ns) : GA l Z L y cc nL ret hh d mc ms q qx (pc) f (.long (K 4294967295) :: .long (K a) :: st) S nc ns := by subst hx; refine GA.land hdg ?_; rw [K_and32]; exact k
theorem GV.lor32 {a b : Int} (hg : a % 4294967296 = 0 ∧ 0 ≤ b ∧ b < 4294967296) (hx : a + b = x) (hdg : decode cc pc = .ok (.lor, 1)) (k : GA l Z L y cc nL ret hh d mc ms q qx (pc + 1) f (.long (K x) :: st) S nc ns) : GA l Z L y cc nL ret hh d mc ms q qx (pc) f (.long (K b) :: .long (K a) :: st) S nc ns := by subst hx; refine GA.lor hdg ?_; rw [K_or32 hg]; exact k
theorem GV.laldO (hO : L 701 = 1) (hx : S.1 600 0 = x) (hdg : decode cc pc = .ok (.laload, 1)) (k : GA l Z L y cc nL ret hh d mc ms q qx (pc + 1) f (.long (K x) :: st) S nc ns) : GA l Z L y cc nL ret hh d mc ms q qx (pc) f (.int (J 0) :: .ref (L 600) :: st) S nc ns := by subst hx; exact GA.lald (i := 0) hdg (gs_600 hO) (by decide) (by decide) rfl k
theorem GV.lastO {z : Int} (hO : L 701 = 1) (hS : gI S 600 0 z = S1) (hdg : decode cc pc = .ok (.lastore, 1)) (k : GA l Z L y cc nL ret hh d mc ms q qx (pc + 1) f (st) S1 nc ns) : GA l Z L y cc nL ret hh d mc ms q qx (pc) f (.long (K z) :: .int (J 0) :: .ref (L 600) :: st) S nc ns := by
  subst hS
  intro h lv hG hf
  refine XA.last hdg (hG.2 600 (by decide) _ (gs_600 hO)) (J_in (z := 0) (by decide) (by decide) (by decide)) ?_
  rw [show (J 0).toNatClampNeg = 0 from by decide, updL_K]
  refine k _ lv (hG.up (c := 600) (by decide) gI_o ?_) hf
  rw [gI_1]
  exact gs_600 hO
theorem GV.sld {i : Int} (hg : 0 ≤ i ∧ i < ((Z.1.2.1 : Nat) : Int) ∧ i < 2147483648) (hx : (Z.1.2.2 i.toNat).toInt = x) (hdg : decode cc pc = .ok (.iaload, 1)) (k : GA l Z L y cc nL ret hh d mc ms q qx (pc + 1) f (.int (J x) :: st) S nc ns) : GA l Z L y cc nL ret hh d mc ms q qx (pc) f (.int (J i) :: .ref Z.1.1 :: st) S nc ns := by
  subst hx
  intro h lv hG hf
  refine XA.sld (J_in hg.1 hg.2.1 hg.2.2) ?_ hdg (k h lv hG hf)
  rw [J_nat hg.1 hg.2.2]
  exact (Int32.ofInt_toInt _).symm
theorem GV.slen (hdg : decode cc pc = .ok (.arraylength, 1)) (k : GA l Z L y cc nL ret hh d mc ms q qx (pc + 1) f (.int (J ((Z.1.2.1 : Nat) : Int)) :: st) S nc ns) : GA l Z L y cc nL ret hh d mc ms q qx (pc) f (.ref Z.1.1 :: st) S nc ns := fun h lv hG hf => XA.slen Int32.ofInt_eq_ofNat.symm hdg (k h lv hG hf)
theorem GA.callH {index ci c n nL2 d2 mc2 ms2 : Nat} {y2 : MethodName} {cc2 : ByteArray} {ret2 : Option FieldType} {Cn : String} {T : u_T} {N : Nat} {fs As : List Value} {q2 : Option Value → GS → Prop} {qx2 : String → GS → Prop} (hM : GM l Z L y2 cc2 nL2 ret2 [] d2 mc2 ms2 (.ref (L c) :: As) S q2 qx2) (hsite : XSiteV y.cls index Cn y2 cc2 nL2 ret2 n) (hdg : decode cc pc = .ok (.invokevirtual index, 3)) (hs : gsh L c (S.1 c) (S.2.1 c) (S.2.2 c) = some (xO ci fs)) (hc : c < 700) (hcl : vwCl[ci]? = some (Cn, T, N)) (hst : rest = As.reverse ++ .ref (L c) :: st) (hd : d2 + 1 ≤ d) (hn2 : nL2 ≤ 22) (hlen : As.length = n) (hcat : (st.map fun v => v.category).sum ≤ 8) (hc9 : nc + mc2 ≤ mc) (hs9 : ns + ms2 ≤ ms) (kx : ∀ E S', qx2 E S' → ∀ h' lv', Gh L S' h' → gLin f lv' → XT l Z y cc nL ret hh d mc ms (fun v h' => ∃ S', Gh L S' h' ∧ q v S') (fun E h' => ∃ S', Gh L S' h' ∧ qx E S') pc lv' st h' E (nc + mc2) (ns + ms2)) (kk : ∀ v S', q2 v S' → GA l Z L y cc nL ret hh d mc ms q qx (pc + 3) f (v.toList ++ st) S' (nc + mc2) (ns + ms2)) : GA l Z L y cc nL ret hh d mc ms q qx pc f rest S nc ns := fun h lv hG hf => XA.callV (hM h hG) hsite hdg (hG.2 c hc _ hs) hcl hst hd hn2 hlen hcat hc9 hs9 (fun E h' ⟨S', h1, h2⟩ => kx E S' h2 h' lv h1 hf) (fun v h' ⟨S', h1, h2⟩ => kk v S' h2 h' lv h1 hf)
theorem GT.catch {E name : String} (pre : List ExceptionTableEntry) (x9 : ExceptionTableEntry) (suf : List ExceptionTableEntry) (hsplit : tableOf hh = pre ++ x9 :: suf) (hpass : ∀ z ∈ pre, covers z pc = false ∨ (z.catchType ≠ 0 ∧ ∃ nm : String, Cond.classLink y.cls z.catchType nm ∈ xg ∧ (E, nm) ∈ xncs)) (hx : covers x9 pc = true) (h0 : x9.catchType ≠ 0) (hlink : Cond.classLink y.cls x9.catchType name ∈ xg) (hcast : Cond.castable E name ∈ lw_tbl) (k : ∀ q9 : Nat, GA l Z L y cc nL ret hh d mc ms q qx x9.handlerPc f [.ref q9] S nc ns) : ∀ h' lv', Gh L S h' → gLin f lv' → XT l Z y cc nL ret hh d mc ms (fun v h' => ∃ S', Gh L S' h' ∧ q v S') (fun E h' => ∃ S', Gh L S' h' ∧ qx E S') pc lv' st h' E nc ns := fun h' lv' hG hf => XT.catch pre x9 suf hsplit hpass hx h0 hlink hcast (fun q9 => k q9 h' lv' hG hf)
theorem GA.callW {index n nL2 d2 mc2 ms2 : Nat} {y2 : MethodName} {cc2 : ByteArray} {ret2 : Option FieldType} {As : List Value} {q2 : Option Value → GS → Prop} {qx2 : String → GS → Prop} {q0 : Nat × Nat × Nat × Nat} {hr : List (Nat × Nat × Nat × Nat)} (hM : GM l Z L y2 cc2 nL2 ret2 (q0 :: hr) d2 mc2 ms2 As S q2 qx2) (hsite : XSiteW y.cls index y2 cc2 nL2 ret2 (q0 :: hr) n) (hdg : decode cc pc = .ok (.invokestatic index, 3)) (hst : rest = As.reverse ++ st) (hd : d2 + 1 ≤ d) (hn2 : nL2 ≤ 22) (hlen : As.length = n) (hcat : (st.map fun v => v.category).sum ≤ 8) (hc9 : nc + mc2 ≤ mc) (hs9 : ns + ms2 ≤ ms) (hno : ∀ E S', ¬ qx2 E S') (kk : ∀ v S', q2 v S' → GA l Z L y cc nL ret hh d mc ms q qx (pc + 3) f (v.toList ++ st) S' (nc + mc2) (ns + ms2)) : GA l Z L y cc nL ret hh d mc ms q qx pc f rest S nc ns := fun h lv hG hf => XA.callW (hM h hG) hsite hdg hst hd hn2 hlen hcat hc9 hs9 (fun E h' ⟨S', h1, h2⟩ => absurd h2 (hno E S')) (fun v h' ⟨S', h1, h2⟩ => kk v S' h2 h' lv h1 hf)
end LR
set_option maxRecDepth 100000 in
theorem xct_IllegalArgumentException : Cond.castable "java/lang/IllegalArgumentException" "java/lang/IllegalArgumentException" ∈ lw_tbl := xti 964 rfl
set_option maxRecDepth 100000 in
theorem xct_IllegalStateException : Cond.castable "java/lang/IllegalStateException" "java/lang/IllegalStateException" ∈ lw_tbl := xti 1027 rfl
set_option maxRecDepth 100000 in
theorem xct_IndexOutOfBoundsException : Cond.castable "java/lang/IndexOutOfBoundsException" "java/lang/IndexOutOfBoundsException" ∈ lw_tbl := xti 1051 rfl
set_option maxHeartbeats 4000000 in
set_option maxRecDepth 20000 in
theorem m_L_write {l : Launch} {Z : XZ} {L : Nat → Nat} (hO : L 701 = 1) {n d : Nat} {S : GS} {a1 : Int} {a2 : Int} {x : Int} {S1 : GS} (H : f_L_write n d 0 S [a1, a2] = some (x, S1)) : GM l Z L yL_write cL_write 6 (some .int) [(0, 11, 14, 13), (0, 11, 18, 15)] d 1 6 [.ref (L 468), .int (J a1), .long (K a2), .ref (L 600)] S (fun v S' => v = some (.int (J x)) ∧ S1 = S') (fun _ _ => False) := by
  unfold f_L_write at H
  obtain ⟨hd, H⟩ := gg_e H
  obtain ⟨x1, S2, hc, H⟩ := gc_e H
  refine GM.ofH (by decide) (Nat.le_of_ble_eq_true rfl) ?_
  refine GA.aload dL_write_0 rfl ?_
  refine GA.iconst dL_write_2 ?_
  refine GA.aload_n dL_write_3 rfl ?_
  refine GA.iload_n dL_write_4 rfl ?_
  refine GA.lload_n dL_write_5 rfl ?_
  by_cases hb : x1 < exB
  · have H := it_t H hb
    obtain ⟨hg, H⟩ := gg_e H
    cases H
    refine GA.callH (m_X11_write hc hb) xs_L_7 dL_write_6 gs_468 (by decide) rfl rfl (by omega) (by decide) rfl (Nat.le_of_ble_eq_true rfl) (by omega) (by omega) (fun E S9 hx => hx.elim) (fun v S9 hq => ?_)
    obtain ⟨rfl, rfl⟩ := hq
    refine GV.i2l hg dL_write_9 ?_
    refine GV.lastO hO rfl dL_write_10 ?_
    refine GA.goto (tgt := 22) dL_write_11 (by decide) ?_
    refine GA.iconst dL_write_22 ?_
    exact GA.iret rfl dL_write_23 (by omega) (by omega) ⟨rfl, rfl⟩
  · have H := it_f H hb
    refine GA.callH (mx_X11_write hc hb) xs_L_7 dL_write_6 gs_468 (by decide) rfl rfl (by omega) (by decide) rfl (Nat.le_of_ble_eq_true rfl) (by omega) (by omega) (fun E S9 hx => ?_) (fun v S9 hq => hq.elim)
    obtain ⟨rfl, rfl⟩ := hx
    by_cases e0 : x1 = exB + 1
    · have H := it_t H e0
      cases H
      subst e0
      rw [exn_1]
      refine GT.catch [] ⟨0, 11, 14, 13⟩ [⟨0, 11, 18, 15⟩] rfl (fun z hz => absurd hz List.not_mem_nil) (by decide) (by decide) xcl_L_13 xct_IllegalArgumentException (fun q9 => ?_)
      refine GA.astore dL_write_14 (by decide) ?_
      refine GA.iconst dL_write_16 ?_
      exact GA.iret rfl dL_write_17 (by omega) (by omega) ⟨rfl, rfl⟩
    have H := it_f H e0
    by_cases e1 : x1 = exB + 2
    · have H := it_t H e1
      cases H
      subst e1
      rw [exn_2]
      refine GT.catch [⟨0, 11, 14, 13⟩] ⟨0, 11, 18, 15⟩ [] rfl (fun z hz => by
        simp only [List.mem_cons, List.not_mem_nil, or_false] at hz
        rcases hz with rfl
        · exact Or.inr ⟨by decide, "java/lang/IllegalArgumentException", xcl_L_13, by decide⟩) (by decide) (by decide) xcl_L_15 xct_IllegalStateException (fun q9 => ?_)
      refine GA.astore dL_write_18 (by decide) ?_
      refine GA.iconst dL_write_20 ?_
      exact GA.iret rfl dL_write_21 (by omega) (by omega) ⟨rfl, rfl⟩
    · have H := it_f H e1
      cases H
set_option maxHeartbeats 4000000 in
set_option maxRecDepth 20000 in
theorem m_L_paper {l : Launch} {Z : XZ} {L : Nat → Nat} (hO : L 701 = 1) {n d : Nat} {S : GS} {a1 : Int} {a2 : Int} {x : Int} {S1 : GS} (H : f_L_paper n d 0 S [a1, a2] = some (x, S1)) : GM l Z L yL_paper cL_paper 5 (some .int) [(0, 9, 12, 21), (0, 9, 16, 13)] d 1 6 [.ref (L 468), .int (J a1), .int (J a2), .ref (L 600)] S (fun v S' => v = some (.int (J x)) ∧ S1 = S') (fun _ _ => False) := by
  unfold f_L_paper at H
  obtain ⟨hd, H⟩ := gg_e H
  obtain ⟨x1, S2, hc, H⟩ := gc_e H
  refine GM.ofH (by decide) (Nat.le_of_ble_eq_true rfl) ?_
  refine GA.aload_n dL_paper_0 rfl ?_
  refine GA.iconst dL_paper_1 ?_
  refine GA.aload_n dL_paper_2 rfl ?_
  refine GA.iload_n dL_paper_3 rfl ?_
  refine GA.iload_n dL_paper_4 rfl ?_
  by_cases hb : x1 < exB
  · have H := it_t H hb
    cases H
    refine GA.callH (m_X11_paper hc hb) xs_L_17 dL_paper_5 gs_468 (by decide) rfl rfl (by omega) (by decide) rfl (Nat.le_of_ble_eq_true rfl) (by omega) (by omega) (fun E S9 hx => hx.elim) (fun v S9 hq => ?_)
    obtain ⟨rfl, rfl⟩ := hq
    refine GV.lastO hO rfl dL_paper_8 ?_
    refine GA.goto (tgt := 20) dL_paper_9 (by decide) ?_
    refine GA.iconst dL_paper_20 ?_
    exact GA.iret rfl dL_paper_21 (by omega) (by omega) ⟨rfl, rfl⟩
  · have H := it_f H hb
    refine GA.callH (mx_X11_paper hc hb) xs_L_17 dL_paper_5 gs_468 (by decide) rfl rfl (by omega) (by decide) rfl (Nat.le_of_ble_eq_true rfl) (by omega) (by omega) (fun E S9 hx => ?_) (fun v S9 hq => hq.elim)
    obtain ⟨rfl, rfl⟩ := hx
    by_cases e0 : x1 = exB + 3
    · have H := it_t H e0
      cases H
      subst e0
      rw [exn_3]
      refine GT.catch [] ⟨0, 9, 12, 21⟩ [⟨0, 9, 16, 13⟩] rfl (fun z hz => absurd hz List.not_mem_nil) (by decide) (by decide) xcl_L_21 xct_IndexOutOfBoundsException (fun q9 => ?_)
      refine GA.astore dL_paper_12 (by decide) ?_
      refine GA.iconst dL_paper_14 ?_
      exact GA.iret rfl dL_paper_15 (by omega) (by omega) ⟨rfl, rfl⟩
    have H := it_f H e0
    by_cases e1 : x1 = exB + 1
    · have H := it_t H e1
      cases H
      subst e1
      rw [exn_1]
      refine GT.catch [⟨0, 9, 12, 21⟩] ⟨0, 9, 16, 13⟩ [] rfl (fun z hz => by
        simp only [List.mem_cons, List.not_mem_nil, or_false] at hz
        rcases hz with rfl
        · exact Or.inr ⟨by decide, "java/lang/IndexOutOfBoundsException", xcl_L_21, by decide⟩) (by decide) (by decide) xcl_L_13 xct_IllegalArgumentException (fun q9 => ?_)
      refine GA.astore dL_paper_16 (by decide) ?_
      refine GA.iconst dL_paper_18 ?_
      exact GA.iret rfl dL_paper_19 (by omega) (by omega) ⟨rfl, rfl⟩
    · have H := it_f H e1
      cases H
set_option maxHeartbeats 4000000 in
set_option maxRecDepth 20000 in
theorem m_L_rule {l : Launch} {Z : XZ} {L : Nat → Nat} (hO : L 701 = 1) {n d : Nat} {S : GS} {a1 : Int} {x : Int} {S1 : GS} (H : f_L_rule n d 0 S [a1] = some (x, S1)) : GM l Z L yL_rule cL_rule 4 (some .int) [(0, 9, 12, 13)] d 1 6 [.ref (L 468), .int (J a1), .ref (L 600)] S (fun v S' => v = some (.int (J x)) ∧ S1 = S') (fun _ _ => False) := by
  unfold f_L_rule at H
  obtain ⟨hd, H⟩ := gg_e H
  obtain ⟨x1, S2, hc, H⟩ := gc_e H
  refine GM.ofH (by decide) (Nat.le_of_ble_eq_true rfl) ?_
  refine GA.aload_n dL_rule_0 rfl ?_
  refine GA.iconst dL_rule_1 ?_
  refine GA.aload_n dL_rule_2 rfl ?_
  refine GA.iload_n dL_rule_3 rfl ?_
  by_cases hb : x1 < exB
  · have H := it_t H hb
    obtain ⟨hg, H⟩ := gg_e H
    cases H
    refine GA.callH (m_X11_rule hc hb) xs_L_23 dL_rule_4 gs_468 (by decide) rfl rfl (by omega) (by decide) rfl (Nat.le_of_ble_eq_true rfl) (by omega) (by omega) (fun E S9 hx => hx.elim) (fun v S9 hq => ?_)
    obtain ⟨rfl, rfl⟩ := hq
    refine GV.i2l hg dL_rule_7 ?_
    refine GV.lastO hO rfl dL_rule_8 ?_
    refine GA.goto (tgt := 15) dL_rule_9 (by decide) ?_
    refine GA.iconst dL_rule_15 ?_
    exact GA.iret rfl dL_rule_16 (by omega) (by omega) ⟨rfl, rfl⟩
  · have H := it_f H hb
    refine GA.callH (mx_X11_rule hc hb) xs_L_23 dL_rule_4 gs_468 (by decide) rfl rfl (by omega) (by decide) rfl (Nat.le_of_ble_eq_true rfl) (by omega) (by omega) (fun E S9 hx => ?_) (fun v S9 hq => hq.elim)
    obtain ⟨rfl, rfl⟩ := hx
    by_cases e0 : x1 = exB + 1
    · have H := it_t H e0
      cases H
      subst e0
      rw [exn_1]
      refine GT.catch [] ⟨0, 9, 12, 13⟩ [] rfl (fun z hz => absurd hz List.not_mem_nil) (by decide) (by decide) xcl_L_13 xct_IllegalArgumentException (fun q9 => ?_)
      refine GA.astore_n dL_rule_12 (by decide) ?_
      refine GA.iconst dL_rule_13 ?_
      exact GA.iret rfl dL_rule_14 (by omega) (by omega) ⟨rfl, rfl⟩
    · have H := it_f H e0
      cases H
set_option maxHeartbeats 4000000 in
set_option maxRecDepth 20000 in
theorem m_L_read {l : Launch} {Z : XZ} {L : Nat → Nat} (hO : L 701 = 1) {n d : Nat} {S : GS} {x : Int} {S1 : GS} (H : f_L_read n d 0 S [] = some (x, S1)) : GM l Z L yL_read cL_read 3 (some .int) [(0, 8, 11, 15)] d 1 6 [.ref (L 468), .ref (L 600)] S (fun v S' => v = some (.int (J x)) ∧ S1 = S') (fun _ _ => False) := by
  unfold f_L_read at H
  obtain ⟨hd, H⟩ := gg_e H
  obtain ⟨x1, S2, hc, H⟩ := gc_e H
  refine GM.ofH (by decide) (Nat.le_of_ble_eq_true rfl) ?_
  refine GA.aload_n dL_read_0 rfl ?_
  refine GA.iconst dL_read_1 ?_
  refine GA.aload_n dL_read_2 rfl ?_
  by_cases hb : x1 < exB
  · have H := it_t H hb
    obtain ⟨hg, H⟩ := gg_e H
    cases H
    refine GA.callH (m_X11_read hc hb) xs_L_27 dL_read_3 gs_468 (by decide) rfl rfl (by omega) (by decide) rfl (Nat.le_of_ble_eq_true rfl) (by omega) (by omega) (fun E S9 hx => hx.elim) (fun v S9 hq => ?_)
    obtain ⟨rfl, rfl⟩ := hq
    refine GV.i2l hg dL_read_6 ?_
    refine GV.lastO hO rfl dL_read_7 ?_
    refine GA.goto (tgt := 14) dL_read_8 (by decide) ?_
    refine GA.iconst dL_read_14 ?_
    exact GA.iret rfl dL_read_15 (by omega) (by omega) ⟨rfl, rfl⟩
  · have H := it_f H hb
    refine GA.callH (mx_X11_read hc hb) xs_L_27 dL_read_3 gs_468 (by decide) rfl rfl (by omega) (by decide) rfl (Nat.le_of_ble_eq_true rfl) (by omega) (by omega) (fun E S9 hx => ?_) (fun v S9 hq => hq.elim)
    obtain ⟨rfl, rfl⟩ := hx
    by_cases e0 : x1 = exB + 2
    · have H := it_t H e0
      cases H
      subst e0
      rw [exn_2]
      refine GT.catch [] ⟨0, 8, 11, 15⟩ [] rfl (fun z hz => absurd hz List.not_mem_nil) (by decide) (by decide) xcl_L_15 xct_IllegalStateException (fun q9 => ?_)
      refine GA.astore_n dL_read_11 (by decide) ?_
      refine GA.iconst dL_read_12 ?_
      exact GA.iret rfl dL_read_13 (by omega) (by omega) ⟨rfl, rfl⟩
    · have H := it_f H e0
      cases H
set_option maxHeartbeats 4000000 in
set_option maxRecDepth 20000 in
theorem m_L_print {l : Launch} {Z : XZ} {L : Nat → Nat} (hO : L 701 = 1) {n d : Nat} {S : GS} {a1 : Int} {a2 : Int} {x : Int} {S1 : GS} (H : f_L_print n d 0 S [a1, a2] = some (x, S1)) : GM l Z L yL_print cL_print 5 (some .int) [(0, 10, 13, 21), (0, 10, 17, 13)] d 1 6 [.ref (L 468), .int (J a1), .int (J a2), .ref (L 600)] S (fun v S' => v = some (.int (J x)) ∧ S1 = S') (fun _ _ => False) := by
  unfold f_L_print at H
  obtain ⟨hd, H⟩ := gg_e H
  obtain ⟨x1, S2, hc, H⟩ := gc_e H
  refine GM.ofH (by decide) (Nat.le_of_ble_eq_true rfl) ?_
  refine GA.aload_n dL_print_0 rfl ?_
  refine GA.iconst dL_print_1 ?_
  refine GA.aload_n dL_print_2 rfl ?_
  refine GA.iload_n dL_print_3 rfl ?_
  refine GA.iload_n dL_print_4 rfl ?_
  by_cases hb : x1 < exB
  · have H := it_t H hb
    obtain ⟨hg, H⟩ := gg_e H
    cases H
    refine GA.callH (m_X11_print hc hb) xs_L_31 dL_print_5 gs_468 (by decide) rfl rfl (by omega) (by decide) rfl (Nat.le_of_ble_eq_true rfl) (by omega) (by omega) (fun E S9 hx => hx.elim) (fun v S9 hq => ?_)
    obtain ⟨rfl, rfl⟩ := hq
    refine GV.i2l hg dL_print_8 ?_
    refine GV.lastO hO rfl dL_print_9 ?_
    refine GA.goto (tgt := 21) dL_print_10 (by decide) ?_
    refine GA.iconst dL_print_21 ?_
    exact GA.iret rfl dL_print_22 (by omega) (by omega) ⟨rfl, rfl⟩
  · have H := it_f H hb
    refine GA.callH (mx_X11_print hc hb) xs_L_31 dL_print_5 gs_468 (by decide) rfl rfl (by omega) (by decide) rfl (Nat.le_of_ble_eq_true rfl) (by omega) (by omega) (fun E S9 hx => ?_) (fun v S9 hq => hq.elim)
    obtain ⟨rfl, rfl⟩ := hx
    by_cases e0 : x1 = exB + 3
    · have H := it_t H e0
      cases H
      subst e0
      rw [exn_3]
      refine GT.catch [] ⟨0, 10, 13, 21⟩ [⟨0, 10, 17, 13⟩] rfl (fun z hz => absurd hz List.not_mem_nil) (by decide) (by decide) xcl_L_21 xct_IndexOutOfBoundsException (fun q9 => ?_)
      refine GA.astore dL_print_13 (by decide) ?_
      refine GA.iconst dL_print_15 ?_
      exact GA.iret rfl dL_print_16 (by omega) (by omega) ⟨rfl, rfl⟩
    have H := it_f H e0
    by_cases e1 : x1 = exB + 1
    · have H := it_t H e1
      cases H
      subst e1
      rw [exn_1]
      refine GT.catch [⟨0, 10, 13, 21⟩] ⟨0, 10, 17, 13⟩ [] rfl (fun z hz => by
        simp only [List.mem_cons, List.not_mem_nil, or_false] at hz
        rcases hz with rfl
        · exact Or.inr ⟨by decide, "java/lang/IndexOutOfBoundsException", xcl_L_21, by decide⟩) (by decide) (by decide) xcl_L_13 xct_IllegalArgumentException (fun q9 => ?_)
      refine GA.astore dL_print_17 (by decide) ?_
      refine GA.iconst dL_print_19 ?_
      exact GA.iret rfl dL_print_20 (by omega) (by omega) ⟨rfl, rfl⟩
    · have H := it_f H e1
      cases H
set_option maxHeartbeats 4000000 in
set_option maxRecDepth 20000 in
theorem m_L_node {l : Launch} {Z : XZ} {L : Nat → Nat} (hO : L 701 = 1) {n d : Nat} {S : GS} {a1 : Int} {a2 : Int} {a3 : Int} {x : Int} {S1 : GS} (H : f_L_node n d 0 S [a1, a2, a3] = some (x, S1)) : GM l Z L yL_node cL_node 6 (some .int) [(0, 12, 15, 21), (0, 12, 19, 13)] d 1 6 [.ref (L 468), .int (J a1), .int (J a2), .int (J a3), .ref (L 600)] S (fun v S' => v = some (.int (J x)) ∧ S1 = S') (fun _ _ => False) := by
  unfold f_L_node at H
  obtain ⟨hd, H⟩ := gg_e H
  obtain ⟨x1, S2, hc, H⟩ := gc_e H
  refine GM.ofH (by decide) (Nat.le_of_ble_eq_true rfl) ?_
  refine GA.aload dL_node_0 rfl ?_
  refine GA.iconst dL_node_2 ?_
  refine GA.aload_n dL_node_3 rfl ?_
  refine GA.iload_n dL_node_4 rfl ?_
  refine GA.iload_n dL_node_5 rfl ?_
  refine GA.iload_n dL_node_6 rfl ?_
  by_cases hb : x1 < exB
  · have H := it_t H hb
    obtain ⟨hg, H⟩ := gg_e H
    cases H
    refine GA.callH (m_X11_node hc hb) xs_L_35 dL_node_7 gs_468 (by decide) rfl rfl (by omega) (by decide) rfl (Nat.le_of_ble_eq_true rfl) (by omega) (by omega) (fun E S9 hx => hx.elim) (fun v S9 hq => ?_)
    obtain ⟨rfl, rfl⟩ := hq
    refine GV.i2l hg dL_node_10 ?_
    refine GV.lastO hO rfl dL_node_11 ?_
    refine GA.goto (tgt := 23) dL_node_12 (by decide) ?_
    refine GA.iconst dL_node_23 ?_
    exact GA.iret rfl dL_node_24 (by omega) (by omega) ⟨rfl, rfl⟩
  · have H := it_f H hb
    refine GA.callH (mx_X11_node hc hb) xs_L_35 dL_node_7 gs_468 (by decide) rfl rfl (by omega) (by decide) rfl (Nat.le_of_ble_eq_true rfl) (by omega) (by omega) (fun E S9 hx => ?_) (fun v S9 hq => hq.elim)
    obtain ⟨rfl, rfl⟩ := hx
    by_cases e0 : x1 = exB + 3
    · have H := it_t H e0
      cases H
      subst e0
      rw [exn_3]
      refine GT.catch [] ⟨0, 12, 15, 21⟩ [⟨0, 12, 19, 13⟩] rfl (fun z hz => absurd hz List.not_mem_nil) (by decide) (by decide) xcl_L_21 xct_IndexOutOfBoundsException (fun q9 => ?_)
      refine GA.astore dL_node_15 (by decide) ?_
      refine GA.iconst dL_node_17 ?_
      exact GA.iret rfl dL_node_18 (by omega) (by omega) ⟨rfl, rfl⟩
    have H := it_f H e0
    by_cases e1 : x1 = exB + 1
    · have H := it_t H e1
      cases H
      subst e1
      rw [exn_1]
      refine GT.catch [⟨0, 12, 15, 21⟩] ⟨0, 12, 19, 13⟩ [] rfl (fun z hz => by
        simp only [List.mem_cons, List.not_mem_nil, or_false] at hz
        rcases hz with rfl
        · exact Or.inr ⟨by decide, "java/lang/IndexOutOfBoundsException", xcl_L_21, by decide⟩) (by decide) (by decide) xcl_L_13 xct_IllegalArgumentException (fun q9 => ?_)
      refine GA.astore dL_node_19 (by decide) ?_
      refine GA.iconst dL_node_21 ?_
      exact GA.iret rfl dL_node_22 (by omega) (by omega) ⟨rfl, rfl⟩
    · have H := it_f H e1
      cases H
set_option maxHeartbeats 4000000 in
set_option maxRecDepth 20000 in
theorem m_L_tell {l : Launch} {Z : XZ} {L : Nat → Nat} (hO : L 701 = 1) {n d : Nat} {S : GS} {a1 : Int} {a2 : Int} {a3 : Int} {x : Int} {S1 : GS} (H : f_L_tell n d 0 S [a1, a2, a3] = some (x, S1)) : GM l Z L yL_tell cL_tell 6 (some .int) [(0, 12, 15, 21), (0, 12, 19, 13), (0, 12, 23, 15)] d 1 6 [.ref (L 468), .int (J a1), .int (J a2), .int (J a3), .ref (L 600)] S (fun v S' => v = some (.int (J x)) ∧ S1 = S') (fun _ _ => False) := by
  unfold f_L_tell at H
  obtain ⟨hd, H⟩ := gg_e H
  obtain ⟨x1, S2, hc, H⟩ := gc_e H
  refine GM.ofH (by decide) (Nat.le_of_ble_eq_true rfl) ?_
  refine GA.aload dL_tell_0 rfl ?_
  refine GA.iconst dL_tell_2 ?_
  refine GA.aload_n dL_tell_3 rfl ?_
  refine GA.iload_n dL_tell_4 rfl ?_
  refine GA.iload_n dL_tell_5 rfl ?_
  refine GA.iload_n dL_tell_6 rfl ?_
  by_cases hb : x1 < exB
  · have H := it_t H hb
    obtain ⟨hg, H⟩ := gg_e H
    cases H
    refine GA.callH (m_X11_tell hc hb) xs_L_39 dL_tell_7 gs_468 (by decide) rfl rfl (by omega) (by decide) rfl (Nat.le_of_ble_eq_true rfl) (by omega) (by omega) (fun E S9 hx => hx.elim) (fun v S9 hq => ?_)
    obtain ⟨rfl, rfl⟩ := hq
    refine GV.i2l hg dL_tell_10 ?_
    refine GV.lastO hO rfl dL_tell_11 ?_
    refine GA.goto (tgt := 27) dL_tell_12 (by decide) ?_
    refine GA.iconst dL_tell_27 ?_
    exact GA.iret rfl dL_tell_28 (by omega) (by omega) ⟨rfl, rfl⟩
  · have H := it_f H hb
    refine GA.callH (mx_X11_tell hc hb) xs_L_39 dL_tell_7 gs_468 (by decide) rfl rfl (by omega) (by decide) rfl (Nat.le_of_ble_eq_true rfl) (by omega) (by omega) (fun E S9 hx => ?_) (fun v S9 hq => hq.elim)
    obtain ⟨rfl, rfl⟩ := hx
    by_cases e0 : x1 = exB + 3
    · have H := it_t H e0
      cases H
      subst e0
      rw [exn_3]
      refine GT.catch [] ⟨0, 12, 15, 21⟩ [⟨0, 12, 19, 13⟩, ⟨0, 12, 23, 15⟩] rfl (fun z hz => absurd hz List.not_mem_nil) (by decide) (by decide) xcl_L_21 xct_IndexOutOfBoundsException (fun q9 => ?_)
      refine GA.astore dL_tell_15 (by decide) ?_
      refine GA.iconst dL_tell_17 ?_
      exact GA.iret rfl dL_tell_18 (by omega) (by omega) ⟨rfl, rfl⟩
    have H := it_f H e0
    by_cases e1 : x1 = exB + 1
    · have H := it_t H e1
      cases H
      subst e1
      rw [exn_1]
      refine GT.catch [⟨0, 12, 15, 21⟩] ⟨0, 12, 19, 13⟩ [⟨0, 12, 23, 15⟩] rfl (fun z hz => by
        simp only [List.mem_cons, List.not_mem_nil, or_false] at hz
        rcases hz with rfl
        · exact Or.inr ⟨by decide, "java/lang/IndexOutOfBoundsException", xcl_L_21, by decide⟩) (by decide) (by decide) xcl_L_13 xct_IllegalArgumentException (fun q9 => ?_)
      refine GA.astore dL_tell_19 (by decide) ?_
      refine GA.iconst dL_tell_21 ?_
      exact GA.iret rfl dL_tell_22 (by omega) (by omega) ⟨rfl, rfl⟩
    have H := it_f H e1
    by_cases e2 : x1 = exB + 2
    · have H := it_t H e2
      cases H
      subst e2
      rw [exn_2]
      refine GT.catch [⟨0, 12, 15, 21⟩, ⟨0, 12, 19, 13⟩] ⟨0, 12, 23, 15⟩ [] rfl (fun z hz => by
        simp only [List.mem_cons, List.not_mem_nil, or_false] at hz
        rcases hz with rfl | rfl
        · exact Or.inr ⟨by decide, "java/lang/IndexOutOfBoundsException", xcl_L_21, by decide⟩
        · exact Or.inr ⟨by decide, "java/lang/IllegalArgumentException", xcl_L_13, by decide⟩) (by decide) (by decide) xcl_L_15 xct_IllegalStateException (fun q9 => ?_)
      refine GA.astore dL_tell_23 (by decide) ?_
      refine GA.iconst dL_tell_25 ?_
      exact GA.iret rfl dL_tell_26 (by omega) (by omega) ⟨rfl, rfl⟩
    · have H := it_f H e2
      cases H
set_option maxHeartbeats 4000000 in
set_option maxRecDepth 20000 in
theorem m_L_equal {l : Launch} {Z : XZ} {L : Nat → Nat} (hO : L 701 = 1) {n d : Nat} {S : GS} {a1 : Int} {a2 : Int} {x : Int} {S1 : GS} (H : f_L_equal n d 0 S [a1, a2] = some (x, S1)) : GM l Z L yL_equal cL_equal 5 (some .int) [(0, 17, 20, 21)] d 1 6 [.ref (L 468), .int (J a1), .int (J a2), .ref (L 600)] S (fun v S' => v = some (.int (J x)) ∧ S1 = S') (fun _ _ => False) := by
  unfold f_L_equal at H
  obtain ⟨hd, H⟩ := gg_e H
  obtain ⟨x1, S2, hc, H⟩ := gc_e H
  refine GM.ofH (by decide) (Nat.le_of_ble_eq_true rfl) ?_
  refine GA.aload_n dL_equal_0 rfl ?_
  refine GA.iconst dL_equal_1 ?_
  refine GA.aload_n dL_equal_2 rfl ?_
  refine GA.iload_n dL_equal_3 rfl ?_
  refine GA.iload_n dL_equal_4 rfl ?_
  by_cases hb : x1 < exB
  · have H := it_t H hb
    obtain ⟨hg, H⟩ := gg_e H
    cases H
    refine GA.callH (m_X11_equal hc hb) xs_L_42 dL_equal_5 gs_468 (by decide) rfl rfl (by omega) (by decide) rfl (Nat.le_of_ble_eq_true rfl) (by omega) (by omega) (fun E S9 hx => hx.elim) (fun v S9 hq => ?_)
    obtain ⟨rfl, rfl⟩ := hq
    rcases hg with rfl | rfl
    · refine GV.if_eq (tgt := 15) (by decide) dL_equal_8 (by decide) (fun _ => ?_) (fun c9 => absurd rfl c9)
      refine GV.lconst (z := 0) (by decide) dL_equal_15 ?_
      refine GV.lastO hO rfl dL_equal_16 ?_
      refine GA.goto (tgt := 24) dL_equal_17 (by decide) ?_
      refine GA.iconst dL_equal_24 ?_
      exact GA.iret rfl dL_equal_25 (by omega) (by omega) ⟨rfl, rfl⟩
    · refine GV.if_eq (tgt := 15) (by decide) dL_equal_8 (by decide) (fun c9 => absurd c9 (by decide)) (fun _ => ?_)
      refine GV.lconst (z := 1) (by decide) dL_equal_11 ?_
      refine GA.goto (tgt := 16) dL_equal_12 (by decide) ?_
      refine GV.lastO hO rfl dL_equal_16 ?_
      refine GA.goto (tgt := 24) dL_equal_17 (by decide) ?_
      refine GA.iconst dL_equal_24 ?_
      exact GA.iret rfl dL_equal_25 (by omega) (by omega) ⟨rfl, rfl⟩
  · have H := it_f H hb
    refine GA.callH (mx_X11_equal hc hb) xs_L_42 dL_equal_5 gs_468 (by decide) rfl rfl (by omega) (by decide) rfl (Nat.le_of_ble_eq_true rfl) (by omega) (by omega) (fun E S9 hx => ?_) (fun v S9 hq => hq.elim)
    obtain ⟨rfl, rfl⟩ := hx
    by_cases e0 : x1 = exB + 3
    · have H := it_t H e0
      cases H
      subst e0
      rw [exn_3]
      refine GT.catch [] ⟨0, 17, 20, 21⟩ [] rfl (fun z hz => absurd hz List.not_mem_nil) (by decide) (by decide) xcl_L_21 xct_IndexOutOfBoundsException (fun q9 => ?_)
      refine GA.astore dL_equal_20 (by decide) ?_
      refine GA.iconst dL_equal_22 ?_
      exact GA.iret rfl dL_equal_23 (by omega) (by omega) ⟨rfl, rfl⟩
    · have H := it_f H e0
      cases H
set_option maxHeartbeats 4000000 in
set_option maxRecDepth 20000 in
theorem m_L_compare {l : Launch} {Z : XZ} {L : Nat → Nat} (hO : L 701 = 1) {n d : Nat} {S : GS} {a1 : Int} {a2 : Int} {x : Int} {S1 : GS} (H : f_L_compare n d 0 S [a1, a2] = some (x, S1)) : GM l Z L yL_compare cL_compare 5 (some .int) [(0, 10, 13, 21), (0, 10, 17, 15)] d 1 6 [.ref (L 468), .int (J a1), .int (J a2), .ref (L 600)] S (fun v S' => v = some (.int (J x)) ∧ S1 = S') (fun _ _ => False) := by
  unfold f_L_compare at H
  obtain ⟨hd, H⟩ := gg_e H
  obtain ⟨x1, S2, hc, H⟩ := gc_e H
  refine GM.ofH (by decide) (Nat.le_of_ble_eq_true rfl) ?_
  refine GA.aload_n dL_compare_0 rfl ?_
  refine GA.iconst dL_compare_1 ?_
  refine GA.aload_n dL_compare_2 rfl ?_
  refine GA.iload_n dL_compare_3 rfl ?_
  refine GA.iload_n dL_compare_4 rfl ?_
  by_cases hb : x1 < exB
  · have H := it_t H hb
    obtain ⟨hg, H⟩ := gg_e H
    cases H
    refine GA.callH (m_X11_compare hc hb) xs_L_46 dL_compare_5 gs_468 (by decide) rfl rfl (by omega) (by decide) rfl (Nat.le_of_ble_eq_true rfl) (by omega) (by omega) (fun E S9 hx => hx.elim) (fun v S9 hq => ?_)
    obtain ⟨rfl, rfl⟩ := hq
    refine GV.i2l hg dL_compare_8 ?_
    refine GV.lastO hO rfl dL_compare_9 ?_
    refine GA.goto (tgt := 21) dL_compare_10 (by decide) ?_
    refine GA.iconst dL_compare_21 ?_
    exact GA.iret rfl dL_compare_22 (by omega) (by omega) ⟨rfl, rfl⟩
  · have H := it_f H hb
    refine GA.callH (mx_X11_compare hc hb) xs_L_46 dL_compare_5 gs_468 (by decide) rfl rfl (by omega) (by decide) rfl (Nat.le_of_ble_eq_true rfl) (by omega) (by omega) (fun E S9 hx => ?_) (fun v S9 hq => hq.elim)
    obtain ⟨rfl, rfl⟩ := hx
    by_cases e0 : x1 = exB + 3
    · have H := it_t H e0
      cases H
      subst e0
      rw [exn_3]
      refine GT.catch [] ⟨0, 10, 13, 21⟩ [⟨0, 10, 17, 15⟩] rfl (fun z hz => absurd hz List.not_mem_nil) (by decide) (by decide) xcl_L_21 xct_IndexOutOfBoundsException (fun q9 => ?_)
      refine GA.astore dL_compare_13 (by decide) ?_
      refine GA.iconst dL_compare_15 ?_
      exact GA.iret rfl dL_compare_16 (by omega) (by omega) ⟨rfl, rfl⟩
    have H := it_f H e0
    by_cases e1 : x1 = exB + 2
    · have H := it_t H e1
      cases H
      subst e1
      rw [exn_2]
      refine GT.catch [⟨0, 10, 13, 21⟩] ⟨0, 10, 17, 15⟩ [] rfl (fun z hz => by
        simp only [List.mem_cons, List.not_mem_nil, or_false] at hz
        rcases hz with rfl
        · exact Or.inr ⟨by decide, "java/lang/IndexOutOfBoundsException", xcl_L_21, by decide⟩) (by decide) (by decide) xcl_L_15 xct_IllegalStateException (fun q9 => ?_)
      refine GA.astore dL_compare_17 (by decide) ?_
      refine GA.iconst dL_compare_19 ?_
      exact GA.iret rfl dL_compare_20 (by omega) (by omega) ⟨rfl, rfl⟩
    · have H := it_f H e1
      cases H
set_option maxHeartbeats 4000000 in
set_option maxRecDepth 20000 in
theorem m_L_digest {l : Launch} {Z : XZ} {L : Nat → Nat} (hO : L 701 = 1) {n d : Nat} {S : GS} {a1 : Int} {a2 : Int} {x : Int} {S1 : GS} (H : f_L_digest n d 0 S [a1, a2] = some (x, S1)) : GM l Z L yL_digest cL_digest 5 (some .int) [(0, 10, 13, 21)] d 1 6 [.ref (L 468), .int (J a1), .int (J a2), .ref (L 600)] S (fun v S' => v = some (.int (J x)) ∧ S1 = S') (fun _ _ => False) := by
  unfold f_L_digest at H
  obtain ⟨hd, H⟩ := gg_e H
  obtain ⟨x1, S2, hc, H⟩ := gc_e H
  refine GM.ofH (by decide) (Nat.le_of_ble_eq_true rfl) ?_
  refine GA.aload_n dL_digest_0 rfl ?_
  refine GA.iconst dL_digest_1 ?_
  refine GA.aload_n dL_digest_2 rfl ?_
  refine GA.iload_n dL_digest_3 rfl ?_
  refine GA.iload_n dL_digest_4 rfl ?_
  by_cases hb : x1 < exB
  · have H := it_t H hb
    obtain ⟨hg, H⟩ := gg_e H
    cases H
    refine GA.callH (m_X11_digest hc hb) xs_L_49 dL_digest_5 gs_468 (by decide) rfl rfl (by omega) (by decide) rfl (Nat.le_of_ble_eq_true rfl) (by omega) (by omega) (fun E S9 hx => hx.elim) (fun v S9 hq => ?_)
    obtain ⟨rfl, rfl⟩ := hq
    refine GV.i2l hg dL_digest_8 ?_
    refine GV.lastO hO rfl dL_digest_9 ?_
    refine GA.goto (tgt := 17) dL_digest_10 (by decide) ?_
    refine GA.iconst dL_digest_17 ?_
    exact GA.iret rfl dL_digest_18 (by omega) (by omega) ⟨rfl, rfl⟩
  · have H := it_f H hb
    refine GA.callH (mx_X11_digest hc hb) xs_L_49 dL_digest_5 gs_468 (by decide) rfl rfl (by omega) (by decide) rfl (Nat.le_of_ble_eq_true rfl) (by omega) (by omega) (fun E S9 hx => ?_) (fun v S9 hq => hq.elim)
    obtain ⟨rfl, rfl⟩ := hx
    by_cases e0 : x1 = exB + 3
    · have H := it_t H e0
      cases H
      subst e0
      rw [exn_3]
      refine GT.catch [] ⟨0, 10, 13, 21⟩ [] rfl (fun z hz => absurd hz List.not_mem_nil) (by decide) (by decide) xcl_L_21 xct_IndexOutOfBoundsException (fun q9 => ?_)
      refine GA.astore dL_digest_13 (by decide) ?_
      refine GA.iconst dL_digest_15 ?_
      exact GA.iret rfl dL_digest_16 (by omega) (by omega) ⟨rfl, rfl⟩
    · have H := it_f H e0
      cases H
set_option maxHeartbeats 4000000 in
set_option maxRecDepth 20000 in
theorem m_L_take {l : Launch} {Z : XZ} {L : Nat → Nat} (hO : L 701 = 1) {n d : Nat} {S : GS} {a1 : Int} {a2 : Int} {x : Int} {S1 : GS} (H : f_L_take n d 0 S [a1, a2] = some (x, S1)) : GM l Z L yL_take cL_take 5 (some .int) [(0, 10, 13, 21), (0, 10, 17, 15)] d 1 6 [.ref (L 468), .int (J a1), .int (J a2), .ref (L 600)] S (fun v S' => v = some (.int (J x)) ∧ S1 = S') (fun _ _ => False) := by
  unfold f_L_take at H
  obtain ⟨hd, H⟩ := gg_e H
  obtain ⟨x1, S2, hc, H⟩ := gc_e H
  refine GM.ofH (by decide) (Nat.le_of_ble_eq_true rfl) ?_
  refine GA.aload_n dL_take_0 rfl ?_
  refine GA.iconst dL_take_1 ?_
  refine GA.aload_n dL_take_2 rfl ?_
  refine GA.iload_n dL_take_3 rfl ?_
  refine GA.iload_n dL_take_4 rfl ?_
  by_cases hb : x1 < exB
  · have H := it_t H hb
    obtain ⟨hg, H⟩ := gg_e H
    cases H
    refine GA.callH (m_X11_take hc hb) xs_L_52 dL_take_5 gs_468 (by decide) rfl rfl (by omega) (by decide) rfl (Nat.le_of_ble_eq_true rfl) (by omega) (by omega) (fun E S9 hx => hx.elim) (fun v S9 hq => ?_)
    obtain ⟨rfl, rfl⟩ := hq
    refine GV.i2l hg dL_take_8 ?_
    refine GV.lastO hO rfl dL_take_9 ?_
    refine GA.goto (tgt := 21) dL_take_10 (by decide) ?_
    refine GA.iconst dL_take_21 ?_
    exact GA.iret rfl dL_take_22 (by omega) (by omega) ⟨rfl, rfl⟩
  · have H := it_f H hb
    refine GA.callH (mx_X11_take hc hb) xs_L_52 dL_take_5 gs_468 (by decide) rfl rfl (by omega) (by decide) rfl (Nat.le_of_ble_eq_true rfl) (by omega) (by omega) (fun E S9 hx => ?_) (fun v S9 hq => hq.elim)
    obtain ⟨rfl, rfl⟩ := hx
    by_cases e0 : x1 = exB + 3
    · have H := it_t H e0
      cases H
      subst e0
      rw [exn_3]
      refine GT.catch [] ⟨0, 10, 13, 21⟩ [⟨0, 10, 17, 15⟩] rfl (fun z hz => absurd hz List.not_mem_nil) (by decide) (by decide) xcl_L_21 xct_IndexOutOfBoundsException (fun q9 => ?_)
      refine GA.astore dL_take_13 (by decide) ?_
      refine GA.iconst dL_take_15 ?_
      exact GA.iret rfl dL_take_16 (by omega) (by omega) ⟨rfl, rfl⟩
    have H := it_f H e0
    by_cases e1 : x1 = exB + 2
    · have H := it_t H e1
      cases H
      subst e1
      rw [exn_2]
      refine GT.catch [⟨0, 10, 13, 21⟩] ⟨0, 10, 17, 15⟩ [] rfl (fun z hz => by
        simp only [List.mem_cons, List.not_mem_nil, or_false] at hz
        rcases hz with rfl
        · exact Or.inr ⟨by decide, "java/lang/IndexOutOfBoundsException", xcl_L_21, by decide⟩) (by decide) (by decide) xcl_L_15 xct_IllegalStateException (fun q9 => ?_)
      refine GA.astore dL_take_17 (by decide) ?_
      refine GA.iconst dL_take_19 ?_
      exact GA.iret rfl dL_take_20 (by omega) (by omega) ⟨rfl, rfl⟩
    · have H := it_f H e1
      cases H
set_option maxHeartbeats 4000000 in
set_option maxRecDepth 20000 in
theorem m_L_sorted {l : Launch} {Z : XZ} {L : Nat → Nat} (hO : L 701 = 1) {n d : Nat} {S : GS} {a1 : Int} {x : Int} {S1 : GS} (H : f_L_sorted n d 0 S [a1] = some (x, S1)) : GM l Z L yL_sorted cL_sorted 4 (some .int) [(0, 9, 12, 21), (0, 9, 15, 15)] d 1 6 [.ref (L 468), .int (J a1), .ref (L 600)] S (fun v S' => v = some (.int (J x)) ∧ S1 = S') (fun _ _ => False) := by
  unfold f_L_sorted at H
  obtain ⟨hd, H⟩ := gg_e H
  obtain ⟨x1, S2, hc, H⟩ := gc_e H
  refine GM.ofH (by decide) (Nat.le_of_ble_eq_true rfl) ?_
  refine GA.aload_n dL_sorted_0 rfl ?_
  refine GA.iconst dL_sorted_1 ?_
  refine GA.aload_n dL_sorted_2 rfl ?_
  refine GA.iload_n dL_sorted_3 rfl ?_
  by_cases hb : x1 < exB
  · have H := it_t H hb
    obtain ⟨hg, H⟩ := gg_e H
    cases H
    refine GA.callH (m_X11_sorted hc hb) xs_L_55 dL_sorted_4 gs_468 (by decide) rfl rfl (by omega) (by decide) rfl (Nat.le_of_ble_eq_true rfl) (by omega) (by omega) (fun E S9 hx => hx.elim) (fun v S9 hq => ?_)
    obtain ⟨rfl, rfl⟩ := hq
    refine GV.i2l hg dL_sorted_7 ?_
    refine GV.lastO hO rfl dL_sorted_8 ?_
    refine GA.goto (tgt := 18) dL_sorted_9 (by decide) ?_
    refine GA.iconst dL_sorted_18 ?_
    exact GA.iret rfl dL_sorted_19 (by omega) (by omega) ⟨rfl, rfl⟩
  · have H := it_f H hb
    refine GA.callH (mx_X11_sorted hc hb) xs_L_55 dL_sorted_4 gs_468 (by decide) rfl rfl (by omega) (by decide) rfl (Nat.le_of_ble_eq_true rfl) (by omega) (by omega) (fun E S9 hx => ?_) (fun v S9 hq => hq.elim)
    obtain ⟨rfl, rfl⟩ := hx
    by_cases e0 : x1 = exB + 3
    · have H := it_t H e0
      cases H
      subst e0
      rw [exn_3]
      refine GT.catch [] ⟨0, 9, 12, 21⟩ [⟨0, 9, 15, 15⟩] rfl (fun z hz => absurd hz List.not_mem_nil) (by decide) (by decide) xcl_L_21 xct_IndexOutOfBoundsException (fun q9 => ?_)
      refine GA.astore_n dL_sorted_12 (by decide) ?_
      refine GA.iconst dL_sorted_13 ?_
      exact GA.iret rfl dL_sorted_14 (by omega) (by omega) ⟨rfl, rfl⟩
    have H := it_f H e0
    by_cases e1 : x1 = exB + 2
    · have H := it_t H e1
      cases H
      subst e1
      rw [exn_2]
      refine GT.catch [⟨0, 9, 12, 21⟩] ⟨0, 9, 15, 15⟩ [] rfl (fun z hz => by
        simp only [List.mem_cons, List.not_mem_nil, or_false] at hz
        rcases hz with rfl
        · exact Or.inr ⟨by decide, "java/lang/IndexOutOfBoundsException", xcl_L_21, by decide⟩) (by decide) (by decide) xcl_L_15 xct_IllegalStateException (fun q9 => ?_)
      refine GA.astore_n dL_sorted_15 (by decide) ?_
      refine GA.iconst dL_sorted_16 ?_
      exact GA.iret rfl dL_sorted_17 (by omega) (by omega) ⟨rfl, rfl⟩
    · have H := it_f H e1
      cases H
set_option maxHeartbeats 4000000 in
set_option maxRecDepth 20000 in
theorem m_L_both {l : Launch} {Z : XZ} {L : Nat → Nat} (hO : L 701 = 1) {n d : Nat} {S : GS} {a1 : Int} {a2 : Int} {x : Int} {S1 : GS} (H : f_L_both n d 0 S [a1, a2] = some (x, S1)) : GM l Z L yL_both cL_both 5 (some .int) [(0, 10, 13, 21), (0, 10, 17, 15)] d 1 6 [.ref (L 468), .int (J a1), .int (J a2), .ref (L 600)] S (fun v S' => v = some (.int (J x)) ∧ S1 = S') (fun _ _ => False) := by
  unfold f_L_both at H
  obtain ⟨hd, H⟩ := gg_e H
  obtain ⟨x1, S2, hc, H⟩ := gc_e H
  refine GM.ofH (by decide) (Nat.le_of_ble_eq_true rfl) ?_
  refine GA.aload_n dL_both_0 rfl ?_
  refine GA.iconst dL_both_1 ?_
  refine GA.aload_n dL_both_2 rfl ?_
  refine GA.iload_n dL_both_3 rfl ?_
  refine GA.iload_n dL_both_4 rfl ?_
  by_cases hb : x1 < exB
  · have H := it_t H hb
    obtain ⟨hg, H⟩ := gg_e H
    cases H
    refine GA.callH (m_X11_both hc hb) xs_L_58 dL_both_5 gs_468 (by decide) rfl rfl (by omega) (by decide) rfl (Nat.le_of_ble_eq_true rfl) (by omega) (by omega) (fun E S9 hx => hx.elim) (fun v S9 hq => ?_)
    obtain ⟨rfl, rfl⟩ := hq
    refine GV.i2l hg dL_both_8 ?_
    refine GV.lastO hO rfl dL_both_9 ?_
    refine GA.goto (tgt := 21) dL_both_10 (by decide) ?_
    refine GA.iconst dL_both_21 ?_
    exact GA.iret rfl dL_both_22 (by omega) (by omega) ⟨rfl, rfl⟩
  · have H := it_f H hb
    refine GA.callH (mx_X11_both hc hb) xs_L_58 dL_both_5 gs_468 (by decide) rfl rfl (by omega) (by decide) rfl (Nat.le_of_ble_eq_true rfl) (by omega) (by omega) (fun E S9 hx => ?_) (fun v S9 hq => hq.elim)
    obtain ⟨rfl, rfl⟩ := hx
    by_cases e0 : x1 = exB + 3
    · have H := it_t H e0
      cases H
      subst e0
      rw [exn_3]
      refine GT.catch [] ⟨0, 10, 13, 21⟩ [⟨0, 10, 17, 15⟩] rfl (fun z hz => absurd hz List.not_mem_nil) (by decide) (by decide) xcl_L_21 xct_IndexOutOfBoundsException (fun q9 => ?_)
      refine GA.astore dL_both_13 (by decide) ?_
      refine GA.iconst dL_both_15 ?_
      exact GA.iret rfl dL_both_16 (by omega) (by omega) ⟨rfl, rfl⟩
    have H := it_f H e0
    by_cases e1 : x1 = exB + 2
    · have H := it_t H e1
      cases H
      subst e1
      rw [exn_2]
      refine GT.catch [⟨0, 10, 13, 21⟩] ⟨0, 10, 17, 15⟩ [] rfl (fun z hz => by
        simp only [List.mem_cons, List.not_mem_nil, or_false] at hz
        rcases hz with rfl
        · exact Or.inr ⟨by decide, "java/lang/IndexOutOfBoundsException", xcl_L_21, by decide⟩) (by decide) (by decide) xcl_L_15 xct_IllegalStateException (fun q9 => ?_)
      refine GA.astore dL_both_17 (by decide) ?_
      refine GA.iconst dL_both_19 ?_
      exact GA.iret rfl dL_both_20 (by omega) (by omega) ⟨rfl, rfl⟩
    · have H := it_f H e1
      cases H
set_option maxHeartbeats 4000000 in
set_option maxRecDepth 20000 in
theorem m_L_undo {l : Launch} {Z : XZ} {L : Nat → Nat} (hO : L 701 = 1) {n d : Nat} {S : GS} {x : Int} {S1 : GS} (H : f_L_undo n d 0 S [] = some (x, S1)) : GM l Z L yL_undo cL_undo 3 (some .int) [(0, 8, 11, 15)] d 1 6 [.ref (L 468), .ref (L 600)] S (fun v S' => v = some (.int (J x)) ∧ S1 = S') (fun _ _ => False) := by
  unfold f_L_undo at H
  obtain ⟨hd, H⟩ := gg_e H
  obtain ⟨x1, S2, hc, H⟩ := gc_e H
  refine GM.ofH (by decide) (Nat.le_of_ble_eq_true rfl) ?_
  refine GA.aload_n dL_undo_0 rfl ?_
  refine GA.iconst dL_undo_1 ?_
  refine GA.aload_n dL_undo_2 rfl ?_
  by_cases hb : x1 < exB
  · have H := it_t H hb
    obtain ⟨hg, H⟩ := gg_e H
    cases H
    refine GA.callH (m_X11_undo hc hb) xs_L_61 dL_undo_3 gs_468 (by decide) rfl rfl (by omega) (by decide) rfl (Nat.le_of_ble_eq_true rfl) (by omega) (by omega) (fun E S9 hx => hx.elim) (fun v S9 hq => ?_)
    obtain ⟨rfl, rfl⟩ := hq
    refine GV.i2l hg dL_undo_6 ?_
    refine GV.lastO hO rfl dL_undo_7 ?_
    refine GA.goto (tgt := 14) dL_undo_8 (by decide) ?_
    refine GA.iconst dL_undo_14 ?_
    exact GA.iret rfl dL_undo_15 (by omega) (by omega) ⟨rfl, rfl⟩
  · have H := it_f H hb
    refine GA.callH (mx_X11_undo hc hb) xs_L_61 dL_undo_3 gs_468 (by decide) rfl rfl (by omega) (by decide) rfl (Nat.le_of_ble_eq_true rfl) (by omega) (by omega) (fun E S9 hx => ?_) (fun v S9 hq => hq.elim)
    obtain ⟨rfl, rfl⟩ := hx
    by_cases e0 : x1 = exB + 2
    · have H := it_t H e0
      cases H
      subst e0
      rw [exn_2]
      refine GT.catch [] ⟨0, 8, 11, 15⟩ [] rfl (fun z hz => absurd hz List.not_mem_nil) (by decide) (by decide) xcl_L_15 xct_IllegalStateException (fun q9 => ?_)
      refine GA.astore_n dL_undo_11 (by decide) ?_
      refine GA.iconst dL_undo_12 ?_
      exact GA.iret rfl dL_undo_13 (by omega) (by omega) ⟨rfl, rfl⟩
    · have H := it_f H e0
      cases H
set_option maxHeartbeats 4000000 in
set_option maxRecDepth 20000 in
theorem m_L_select {l : Launch} {Z : XZ} {L : Nat → Nat} (hO : L 701 = 1) {n d : Nat} {S : GS} {a1 : Int} {x : Int} {S1 : GS} (H : f_L_select n d 0 S [a1] = some (x, S1)) : GM l Z L yL_select cL_select 4 (some .int) [(0, 9, 12, 21), (0, 9, 15, 15)] d 1 6 [.ref (L 468), .int (J a1), .ref (L 600)] S (fun v S' => v = some (.int (J x)) ∧ S1 = S') (fun _ _ => False) := by
  unfold f_L_select at H
  obtain ⟨hd, H⟩ := gg_e H
  obtain ⟨x1, S2, hc, H⟩ := gc_e H
  refine GM.ofH (by decide) (Nat.le_of_ble_eq_true rfl) ?_
  refine GA.aload_n dL_select_0 rfl ?_
  refine GA.iconst dL_select_1 ?_
  refine GA.aload_n dL_select_2 rfl ?_
  refine GA.iload_n dL_select_3 rfl ?_
  by_cases hb : x1 < exB
  · have H := it_t H hb
    obtain ⟨hg, H⟩ := gg_e H
    cases H
    refine GA.callH (m_X11_select hc hb) xs_L_64 dL_select_4 gs_468 (by decide) rfl rfl (by omega) (by decide) rfl (Nat.le_of_ble_eq_true rfl) (by omega) (by omega) (fun E S9 hx => hx.elim) (fun v S9 hq => ?_)
    obtain ⟨rfl, rfl⟩ := hq
    refine GV.i2l hg dL_select_7 ?_
    refine GV.lastO hO rfl dL_select_8 ?_
    refine GA.goto (tgt := 18) dL_select_9 (by decide) ?_
    refine GA.iconst dL_select_18 ?_
    exact GA.iret rfl dL_select_19 (by omega) (by omega) ⟨rfl, rfl⟩
  · have H := it_f H hb
    refine GA.callH (mx_X11_select hc hb) xs_L_64 dL_select_4 gs_468 (by decide) rfl rfl (by omega) (by decide) rfl (Nat.le_of_ble_eq_true rfl) (by omega) (by omega) (fun E S9 hx => ?_) (fun v S9 hq => hq.elim)
    obtain ⟨rfl, rfl⟩ := hx
    by_cases e0 : x1 = exB + 3
    · have H := it_t H e0
      cases H
      subst e0
      rw [exn_3]
      refine GT.catch [] ⟨0, 9, 12, 21⟩ [⟨0, 9, 15, 15⟩] rfl (fun z hz => absurd hz List.not_mem_nil) (by decide) (by decide) xcl_L_21 xct_IndexOutOfBoundsException (fun q9 => ?_)
      refine GA.astore_n dL_select_12 (by decide) ?_
      refine GA.iconst dL_select_13 ?_
      exact GA.iret rfl dL_select_14 (by omega) (by omega) ⟨rfl, rfl⟩
    have H := it_f H e0
    by_cases e1 : x1 = exB + 2
    · have H := it_t H e1
      cases H
      subst e1
      rw [exn_2]
      refine GT.catch [⟨0, 9, 12, 21⟩] ⟨0, 9, 15, 15⟩ [] rfl (fun z hz => by
        simp only [List.mem_cons, List.not_mem_nil, or_false] at hz
        rcases hz with rfl
        · exact Or.inr ⟨by decide, "java/lang/IndexOutOfBoundsException", xcl_L_21, by decide⟩) (by decide) (by decide) xcl_L_15 xct_IllegalStateException (fun q9 => ?_)
      refine GA.astore_n dL_select_15 (by decide) ?_
      refine GA.iconst dL_select_16 ?_
      exact GA.iret rfl dL_select_17 (by omega) (by omega) ⟨rfl, rfl⟩
    · have H := it_f H e1
      cases H
set_option maxHeartbeats 4000000 in
set_option maxRecDepth 20000 in
theorem m_L_find {l : Launch} {Z : XZ} {L : Nat → Nat} (hO : L 701 = 1) {n d : Nat} {S : GS} {a1 : Int} {x : Int} {S1 : GS} (H : f_L_find n d 0 S [a1] = some (x, S1)) : GM l Z L yL_find cL_find 4 (some .int) [(0, 9, 12, 21)] d 1 6 [.ref (L 468), .int (J a1), .ref (L 600)] S (fun v S' => v = some (.int (J x)) ∧ S1 = S') (fun _ _ => False) := by
  unfold f_L_find at H
  obtain ⟨hd, H⟩ := gg_e H
  obtain ⟨x1, S2, hc, H⟩ := gc_e H
  refine GM.ofH (by decide) (Nat.le_of_ble_eq_true rfl) ?_
  refine GA.aload_n dL_find_0 rfl ?_
  refine GA.iconst dL_find_1 ?_
  refine GA.aload_n dL_find_2 rfl ?_
  refine GA.iload_n dL_find_3 rfl ?_
  by_cases hb : x1 < exB
  · have H := it_t H hb
    obtain ⟨hg, H⟩ := gg_e H
    cases H
    refine GA.callH (m_X11_find hc hb) xs_L_67 dL_find_4 gs_468 (by decide) rfl rfl (by omega) (by decide) rfl (Nat.le_of_ble_eq_true rfl) (by omega) (by omega) (fun E S9 hx => hx.elim) (fun v S9 hq => ?_)
    obtain ⟨rfl, rfl⟩ := hq
    refine GV.i2l hg dL_find_7 ?_
    refine GV.lastO hO rfl dL_find_8 ?_
    refine GA.goto (tgt := 15) dL_find_9 (by decide) ?_
    refine GA.iconst dL_find_15 ?_
    exact GA.iret rfl dL_find_16 (by omega) (by omega) ⟨rfl, rfl⟩
  · have H := it_f H hb
    refine GA.callH (mx_X11_find hc hb) xs_L_67 dL_find_4 gs_468 (by decide) rfl rfl (by omega) (by decide) rfl (Nat.le_of_ble_eq_true rfl) (by omega) (by omega) (fun E S9 hx => ?_) (fun v S9 hq => hq.elim)
    obtain ⟨rfl, rfl⟩ := hx
    by_cases e0 : x1 = exB + 3
    · have H := it_t H e0
      cases H
      subst e0
      rw [exn_3]
      refine GT.catch [] ⟨0, 9, 12, 21⟩ [] rfl (fun z hz => absurd hz List.not_mem_nil) (by decide) (by decide) xcl_L_21 xct_IndexOutOfBoundsException (fun q9 => ?_)
      refine GA.astore_n dL_find_12 (by decide) ?_
      refine GA.iconst dL_find_13 ?_
      exact GA.iret rfl dL_find_14 (by omega) (by omega) ⟨rfl, rfl⟩
    · have H := it_f H e0
      cases H
set_option maxHeartbeats 4000000 in
set_option maxRecDepth 20000 in
theorem m_L_put {l : Launch} {Z : XZ} {L : Nat → Nat} (hO : L 701 = 1) {n d : Nat} {S : GS} {a1 : Int} {a2 : Int} {x : Int} {S1 : GS} (H : f_L_put n d 0 S [a1, a2] = some (x, S1)) : GM l Z L yL_put cL_put 5 (some .int) [(0, 10, 13, 21), (0, 10, 17, 15)] d 1 6 [.ref (L 468), .int (J a1), .int (J a2), .ref (L 600)] S (fun v S' => v = some (.int (J x)) ∧ S1 = S') (fun _ _ => False) := by
  unfold f_L_put at H
  obtain ⟨hd, H⟩ := gg_e H
  obtain ⟨x1, S2, hc, H⟩ := gc_e H
  refine GM.ofH (by decide) (Nat.le_of_ble_eq_true rfl) ?_
  refine GA.aload_n dL_put_0 rfl ?_
  refine GA.iconst dL_put_1 ?_
  refine GA.aload_n dL_put_2 rfl ?_
  refine GA.iload_n dL_put_3 rfl ?_
  refine GA.iload_n dL_put_4 rfl ?_
  by_cases hb : x1 < exB
  · have H := it_t H hb
    obtain ⟨hg, H⟩ := gg_e H
    cases H
    refine GA.callH (m_X11_put hc hb) xs_L_70 dL_put_5 gs_468 (by decide) rfl rfl (by omega) (by decide) rfl (Nat.le_of_ble_eq_true rfl) (by omega) (by omega) (fun E S9 hx => hx.elim) (fun v S9 hq => ?_)
    obtain ⟨rfl, rfl⟩ := hq
    refine GV.i2l hg dL_put_8 ?_
    refine GV.lastO hO rfl dL_put_9 ?_
    refine GA.goto (tgt := 21) dL_put_10 (by decide) ?_
    refine GA.iconst dL_put_21 ?_
    exact GA.iret rfl dL_put_22 (by omega) (by omega) ⟨rfl, rfl⟩
  · have H := it_f H hb
    refine GA.callH (mx_X11_put hc hb) xs_L_70 dL_put_5 gs_468 (by decide) rfl rfl (by omega) (by decide) rfl (Nat.le_of_ble_eq_true rfl) (by omega) (by omega) (fun E S9 hx => ?_) (fun v S9 hq => hq.elim)
    obtain ⟨rfl, rfl⟩ := hx
    by_cases e0 : x1 = exB + 3
    · have H := it_t H e0
      cases H
      subst e0
      rw [exn_3]
      refine GT.catch [] ⟨0, 10, 13, 21⟩ [⟨0, 10, 17, 15⟩] rfl (fun z hz => absurd hz List.not_mem_nil) (by decide) (by decide) xcl_L_21 xct_IndexOutOfBoundsException (fun q9 => ?_)
      refine GA.astore dL_put_13 (by decide) ?_
      refine GA.iconst dL_put_15 ?_
      exact GA.iret rfl dL_put_16 (by omega) (by omega) ⟨rfl, rfl⟩
    have H := it_f H e0
    by_cases e1 : x1 = exB + 2
    · have H := it_t H e1
      cases H
      subst e1
      rw [exn_2]
      refine GT.catch [⟨0, 10, 13, 21⟩] ⟨0, 10, 17, 15⟩ [] rfl (fun z hz => by
        simp only [List.mem_cons, List.not_mem_nil, or_false] at hz
        rcases hz with rfl
        · exact Or.inr ⟨by decide, "java/lang/IndexOutOfBoundsException", xcl_L_21, by decide⟩) (by decide) (by decide) xcl_L_15 xct_IllegalStateException (fun q9 => ?_)
      refine GA.astore dL_put_17 (by decide) ?_
      refine GA.iconst dL_put_19 ?_
      exact GA.iret rfl dL_put_20 (by omega) (by omega) ⟨rfl, rfl⟩
    · have H := it_f H e1
      cases H
set_option maxHeartbeats 4000000 in
set_option maxRecDepth 20000 in
theorem m_L_cut {l : Launch} {Z : XZ} {L : Nat → Nat} (hO : L 701 = 1) {n d : Nat} {S : GS} {a1 : Int} {x : Int} {S1 : GS} (H : f_L_cut n d 0 S [a1] = some (x, S1)) : GM l Z L yL_cut cL_cut 4 (some .int) [(0, 9, 12, 21), (0, 9, 15, 15)] d 1 6 [.ref (L 468), .int (J a1), .ref (L 600)] S (fun v S' => v = some (.int (J x)) ∧ S1 = S') (fun _ _ => False) := by
  unfold f_L_cut at H
  obtain ⟨hd, H⟩ := gg_e H
  obtain ⟨x1, S2, hc, H⟩ := gc_e H
  refine GM.ofH (by decide) (Nat.le_of_ble_eq_true rfl) ?_
  refine GA.aload_n dL_cut_0 rfl ?_
  refine GA.iconst dL_cut_1 ?_
  refine GA.aload_n dL_cut_2 rfl ?_
  refine GA.iload_n dL_cut_3 rfl ?_
  by_cases hb : x1 < exB
  · have H := it_t H hb
    obtain ⟨hg, H⟩ := gg_e H
    cases H
    refine GA.callH (m_X11_cut hc hb) xs_L_73 dL_cut_4 gs_468 (by decide) rfl rfl (by omega) (by decide) rfl (Nat.le_of_ble_eq_true rfl) (by omega) (by omega) (fun E S9 hx => hx.elim) (fun v S9 hq => ?_)
    obtain ⟨rfl, rfl⟩ := hq
    refine GV.i2l hg dL_cut_7 ?_
    refine GV.lastO hO rfl dL_cut_8 ?_
    refine GA.goto (tgt := 18) dL_cut_9 (by decide) ?_
    refine GA.iconst dL_cut_18 ?_
    exact GA.iret rfl dL_cut_19 (by omega) (by omega) ⟨rfl, rfl⟩
  · have H := it_f H hb
    refine GA.callH (mx_X11_cut hc hb) xs_L_73 dL_cut_4 gs_468 (by decide) rfl rfl (by omega) (by decide) rfl (Nat.le_of_ble_eq_true rfl) (by omega) (by omega) (fun E S9 hx => ?_) (fun v S9 hq => hq.elim)
    obtain ⟨rfl, rfl⟩ := hx
    by_cases e0 : x1 = exB + 3
    · have H := it_t H e0
      cases H
      subst e0
      rw [exn_3]
      refine GT.catch [] ⟨0, 9, 12, 21⟩ [⟨0, 9, 15, 15⟩] rfl (fun z hz => absurd hz List.not_mem_nil) (by decide) (by decide) xcl_L_21 xct_IndexOutOfBoundsException (fun q9 => ?_)
      refine GA.astore_n dL_cut_12 (by decide) ?_
      refine GA.iconst dL_cut_13 ?_
      exact GA.iret rfl dL_cut_14 (by omega) (by omega) ⟨rfl, rfl⟩
    have H := it_f H e0
    by_cases e1 : x1 = exB + 2
    · have H := it_t H e1
      cases H
      subst e1
      rw [exn_2]
      refine GT.catch [⟨0, 9, 12, 21⟩] ⟨0, 9, 15, 15⟩ [] rfl (fun z hz => by
        simp only [List.mem_cons, List.not_mem_nil, or_false] at hz
        rcases hz with rfl
        · exact Or.inr ⟨by decide, "java/lang/IndexOutOfBoundsException", xcl_L_21, by decide⟩) (by decide) (by decide) xcl_L_15 xct_IllegalStateException (fun q9 => ?_)
      refine GA.astore_n dL_cut_15 (by decide) ?_
      refine GA.iconst dL_cut_16 ?_
      exact GA.iret rfl dL_cut_17 (by omega) (by omega) ⟨rfl, rfl⟩
    · have H := it_f H e1
      cases H
set_option maxHeartbeats 4000000 in
set_option maxRecDepth 20000 in
theorem m_L_lay {l : Launch} {Z : XZ} {L : Nat → Nat} (hO : L 701 = 1) {n d : Nat} {S : GS} {a1 : Int} {a2 : Int} {x : Int} {S1 : GS} (H : f_L_lay n d 0 S [a1, a2] = some (x, S1)) : GM l Z L yL_lay cL_lay 5 (some .int) [(0, 10, 13, 21), (0, 10, 17, 15)] d 1 6 [.ref (L 468), .int (J a1), .int (J a2), .ref (L 600)] S (fun v S' => v = some (.int (J x)) ∧ S1 = S') (fun _ _ => False) := by
  unfold f_L_lay at H
  obtain ⟨hd, H⟩ := gg_e H
  obtain ⟨x1, S2, hc, H⟩ := gc_e H
  refine GM.ofH (by decide) (Nat.le_of_ble_eq_true rfl) ?_
  refine GA.aload_n dL_lay_0 rfl ?_
  refine GA.iconst dL_lay_1 ?_
  refine GA.aload_n dL_lay_2 rfl ?_
  refine GA.iload_n dL_lay_3 rfl ?_
  refine GA.iload_n dL_lay_4 rfl ?_
  by_cases hb : x1 < exB
  · have H := it_t H hb
    obtain ⟨hg, H⟩ := gg_e H
    cases H
    refine GA.callH (m_X11_lay hc hb) xs_L_76 dL_lay_5 gs_468 (by decide) rfl rfl (by omega) (by decide) rfl (Nat.le_of_ble_eq_true rfl) (by omega) (by omega) (fun E S9 hx => hx.elim) (fun v S9 hq => ?_)
    obtain ⟨rfl, rfl⟩ := hq
    refine GV.i2l hg dL_lay_8 ?_
    refine GV.lastO hO rfl dL_lay_9 ?_
    refine GA.goto (tgt := 21) dL_lay_10 (by decide) ?_
    refine GA.iconst dL_lay_21 ?_
    exact GA.iret rfl dL_lay_22 (by omega) (by omega) ⟨rfl, rfl⟩
  · have H := it_f H hb
    refine GA.callH (mx_X11_lay hc hb) xs_L_76 dL_lay_5 gs_468 (by decide) rfl rfl (by omega) (by decide) rfl (Nat.le_of_ble_eq_true rfl) (by omega) (by omega) (fun E S9 hx => ?_) (fun v S9 hq => hq.elim)
    obtain ⟨rfl, rfl⟩ := hx
    by_cases e0 : x1 = exB + 3
    · have H := it_t H e0
      cases H
      subst e0
      rw [exn_3]
      refine GT.catch [] ⟨0, 10, 13, 21⟩ [⟨0, 10, 17, 15⟩] rfl (fun z hz => absurd hz List.not_mem_nil) (by decide) (by decide) xcl_L_21 xct_IndexOutOfBoundsException (fun q9 => ?_)
      refine GA.astore dL_lay_13 (by decide) ?_
      refine GA.iconst dL_lay_15 ?_
      exact GA.iret rfl dL_lay_16 (by omega) (by omega) ⟨rfl, rfl⟩
    have H := it_f H e0
    by_cases e1 : x1 = exB + 2
    · have H := it_t H e1
      cases H
      subst e1
      rw [exn_2]
      refine GT.catch [⟨0, 10, 13, 21⟩] ⟨0, 10, 17, 15⟩ [] rfl (fun z hz => by
        simp only [List.mem_cons, List.not_mem_nil, or_false] at hz
        rcases hz with rfl
        · exact Or.inr ⟨by decide, "java/lang/IndexOutOfBoundsException", xcl_L_21, by decide⟩) (by decide) (by decide) xcl_L_15 xct_IllegalStateException (fun q9 => ?_)
      refine GA.astore dL_lay_17 (by decide) ?_
      refine GA.iconst dL_lay_19 ?_
      exact GA.iret rfl dL_lay_20 (by omega) (by omega) ⟨rfl, rfl⟩
    · have H := it_f H e1
      cases H
set_option maxHeartbeats 4000000 in
set_option maxRecDepth 20000 in
theorem m_L_patch {l : Launch} {Z : XZ} {L : Nat → Nat} (hO : L 701 = 1) {n d : Nat} {S : GS} {a1 : Int} {a2 : Int} {x : Int} {S1 : GS} (H : f_L_patch n d 0 S [a1, a2] = some (x, S1)) : GM l Z L yL_patch cL_patch 5 (some .int) [(0, 10, 13, 21), (0, 10, 17, 15)] d 1 6 [.ref (L 468), .int (J a1), .int (J a2), .ref (L 600)] S (fun v S' => v = some (.int (J x)) ∧ S1 = S') (fun _ _ => False) := by
  unfold f_L_patch at H
  obtain ⟨hd, H⟩ := gg_e H
  obtain ⟨x1, S2, hc, H⟩ := gc_e H
  refine GM.ofH (by decide) (Nat.le_of_ble_eq_true rfl) ?_
  refine GA.aload_n dL_patch_0 rfl ?_
  refine GA.iconst dL_patch_1 ?_
  refine GA.aload_n dL_patch_2 rfl ?_
  refine GA.iload_n dL_patch_3 rfl ?_
  refine GA.iload_n dL_patch_4 rfl ?_
  by_cases hb : x1 < exB
  · have H := it_t H hb
    obtain ⟨hg, H⟩ := gg_e H
    cases H
    refine GA.callH (m_X11_patch hc hb) xs_L_79 dL_patch_5 gs_468 (by decide) rfl rfl (by omega) (by decide) rfl (Nat.le_of_ble_eq_true rfl) (by omega) (by omega) (fun E S9 hx => hx.elim) (fun v S9 hq => ?_)
    obtain ⟨rfl, rfl⟩ := hq
    refine GV.i2l hg dL_patch_8 ?_
    refine GV.lastO hO rfl dL_patch_9 ?_
    refine GA.goto (tgt := 21) dL_patch_10 (by decide) ?_
    refine GA.iconst dL_patch_21 ?_
    exact GA.iret rfl dL_patch_22 (by omega) (by omega) ⟨rfl, rfl⟩
  · have H := it_f H hb
    refine GA.callH (mx_X11_patch hc hb) xs_L_79 dL_patch_5 gs_468 (by decide) rfl rfl (by omega) (by decide) rfl (Nat.le_of_ble_eq_true rfl) (by omega) (by omega) (fun E S9 hx => ?_) (fun v S9 hq => hq.elim)
    obtain ⟨rfl, rfl⟩ := hx
    by_cases e0 : x1 = exB + 3
    · have H := it_t H e0
      cases H
      subst e0
      rw [exn_3]
      refine GT.catch [] ⟨0, 10, 13, 21⟩ [⟨0, 10, 17, 15⟩] rfl (fun z hz => absurd hz List.not_mem_nil) (by decide) (by decide) xcl_L_21 xct_IndexOutOfBoundsException (fun q9 => ?_)
      refine GA.astore dL_patch_13 (by decide) ?_
      refine GA.iconst dL_patch_15 ?_
      exact GA.iret rfl dL_patch_16 (by omega) (by omega) ⟨rfl, rfl⟩
    have H := it_f H e0
    by_cases e1 : x1 = exB + 2
    · have H := it_t H e1
      cases H
      subst e1
      rw [exn_2]
      refine GT.catch [⟨0, 10, 13, 21⟩] ⟨0, 10, 17, 15⟩ [] rfl (fun z hz => by
        simp only [List.mem_cons, List.not_mem_nil, or_false] at hz
        rcases hz with rfl
        · exact Or.inr ⟨by decide, "java/lang/IndexOutOfBoundsException", xcl_L_21, by decide⟩) (by decide) (by decide) xcl_L_15 xct_IllegalStateException (fun q9 => ?_)
      refine GA.astore dL_patch_17 (by decide) ?_
      refine GA.iconst dL_patch_19 ?_
      exact GA.iret rfl dL_patch_20 (by omega) (by omega) ⟨rfl, rfl⟩
    · have H := it_f H e1
      cases H
set_option maxHeartbeats 4000000 in
set_option maxRecDepth 20000 in
theorem m_L_turn {l : Launch} {Z : XZ} {L : Nat → Nat} (hO : L 701 = 1) {n d : Nat} {S : GS} {a1 : Int} {a2 : Int} {x : Int} {S1 : GS} (H : f_L_turn n d 0 S [a1, a2] = some (x, S1)) : GM l Z L yL_turn cL_turn 5 (some .int) [(0, 10, 13, 21), (0, 10, 17, 15)] d 1 6 [.ref (L 468), .int (J a1), .int (J a2), .ref (L 600)] S (fun v S' => v = some (.int (J x)) ∧ S1 = S') (fun _ _ => False) := by
  unfold f_L_turn at H
  obtain ⟨hd, H⟩ := gg_e H
  obtain ⟨x1, S2, hc, H⟩ := gc_e H
  refine GM.ofH (by decide) (Nat.le_of_ble_eq_true rfl) ?_
  refine GA.aload_n dL_turn_0 rfl ?_
  refine GA.iconst dL_turn_1 ?_
  refine GA.aload_n dL_turn_2 rfl ?_
  refine GA.iload_n dL_turn_3 rfl ?_
  refine GA.iload_n dL_turn_4 rfl ?_
  by_cases hb : x1 < exB
  · have H := it_t H hb
    obtain ⟨hg, H⟩ := gg_e H
    cases H
    refine GA.callH (m_X11_turn hc hb) xs_L_82 dL_turn_5 gs_468 (by decide) rfl rfl (by omega) (by decide) rfl (Nat.le_of_ble_eq_true rfl) (by omega) (by omega) (fun E S9 hx => hx.elim) (fun v S9 hq => ?_)
    obtain ⟨rfl, rfl⟩ := hq
    refine GV.i2l hg dL_turn_8 ?_
    refine GV.lastO hO rfl dL_turn_9 ?_
    refine GA.goto (tgt := 21) dL_turn_10 (by decide) ?_
    refine GA.iconst dL_turn_21 ?_
    exact GA.iret rfl dL_turn_22 (by omega) (by omega) ⟨rfl, rfl⟩
  · have H := it_f H hb
    refine GA.callH (mx_X11_turn hc hb) xs_L_82 dL_turn_5 gs_468 (by decide) rfl rfl (by omega) (by decide) rfl (Nat.le_of_ble_eq_true rfl) (by omega) (by omega) (fun E S9 hx => ?_) (fun v S9 hq => hq.elim)
    obtain ⟨rfl, rfl⟩ := hx
    by_cases e0 : x1 = exB + 3
    · have H := it_t H e0
      cases H
      subst e0
      rw [exn_3]
      refine GT.catch [] ⟨0, 10, 13, 21⟩ [⟨0, 10, 17, 15⟩] rfl (fun z hz => absurd hz List.not_mem_nil) (by decide) (by decide) xcl_L_21 xct_IndexOutOfBoundsException (fun q9 => ?_)
      refine GA.astore dL_turn_13 (by decide) ?_
      refine GA.iconst dL_turn_15 ?_
      exact GA.iret rfl dL_turn_16 (by omega) (by omega) ⟨rfl, rfl⟩
    have H := it_f H e0
    by_cases e1 : x1 = exB + 2
    · have H := it_t H e1
      cases H
      subst e1
      rw [exn_2]
      refine GT.catch [⟨0, 10, 13, 21⟩] ⟨0, 10, 17, 15⟩ [] rfl (fun z hz => by
        simp only [List.mem_cons, List.not_mem_nil, or_false] at hz
        rcases hz with rfl
        · exact Or.inr ⟨by decide, "java/lang/IndexOutOfBoundsException", xcl_L_21, by decide⟩) (by decide) (by decide) xcl_L_15 xct_IllegalStateException (fun q9 => ?_)
      refine GA.astore dL_turn_17 (by decide) ?_
      refine GA.iconst dL_turn_19 ?_
      exact GA.iret rfl dL_turn_20 (by omega) (by omega) ⟨rfl, rfl⟩
    · have H := it_f H e1
      cases H
set_option maxHeartbeats 4000000 in
set_option maxRecDepth 20000 in
theorem m_L_join {l : Launch} {Z : XZ} {L : Nat → Nat} (hO : L 701 = 1) {n d : Nat} {S : GS} {a1 : Int} {a2 : Int} {a3 : Int} {x : Int} {S1 : GS} (H : f_L_join n d 0 S [a1, a2, a3] = some (x, S1)) : GM l Z L yL_join cL_join 6 (some .int) [(0, 12, 15, 21), (0, 12, 19, 15)] d 1 6 [.ref (L 468), .int (J a1), .int (J a2), .int (J a3), .ref (L 600)] S (fun v S' => v = some (.int (J x)) ∧ S1 = S') (fun _ _ => False) := by
  unfold f_L_join at H
  obtain ⟨hd, H⟩ := gg_e H
  obtain ⟨x1, S2, hc, H⟩ := gc_e H
  refine GM.ofH (by decide) (Nat.le_of_ble_eq_true rfl) ?_
  refine GA.aload dL_join_0 rfl ?_
  refine GA.iconst dL_join_2 ?_
  refine GA.aload_n dL_join_3 rfl ?_
  refine GA.iload_n dL_join_4 rfl ?_
  refine GA.iload_n dL_join_5 rfl ?_
  refine GA.iload_n dL_join_6 rfl ?_
  by_cases hb : x1 < exB
  · have H := it_t H hb
    obtain ⟨hg, H⟩ := gg_e H
    cases H
    refine GA.callH (m_X11_join hc hb) xs_L_85 dL_join_7 gs_468 (by decide) rfl rfl (by omega) (by decide) rfl (Nat.le_of_ble_eq_true rfl) (by omega) (by omega) (fun E S9 hx => hx.elim) (fun v S9 hq => ?_)
    obtain ⟨rfl, rfl⟩ := hq
    refine GV.i2l hg dL_join_10 ?_
    refine GV.lastO hO rfl dL_join_11 ?_
    refine GA.goto (tgt := 23) dL_join_12 (by decide) ?_
    refine GA.iconst dL_join_23 ?_
    exact GA.iret rfl dL_join_24 (by omega) (by omega) ⟨rfl, rfl⟩
  · have H := it_f H hb
    refine GA.callH (mx_X11_join hc hb) xs_L_85 dL_join_7 gs_468 (by decide) rfl rfl (by omega) (by decide) rfl (Nat.le_of_ble_eq_true rfl) (by omega) (by omega) (fun E S9 hx => ?_) (fun v S9 hq => hq.elim)
    obtain ⟨rfl, rfl⟩ := hx
    by_cases e0 : x1 = exB + 3
    · have H := it_t H e0
      cases H
      subst e0
      rw [exn_3]
      refine GT.catch [] ⟨0, 12, 15, 21⟩ [⟨0, 12, 19, 15⟩] rfl (fun z hz => absurd hz List.not_mem_nil) (by decide) (by decide) xcl_L_21 xct_IndexOutOfBoundsException (fun q9 => ?_)
      refine GA.astore dL_join_15 (by decide) ?_
      refine GA.iconst dL_join_17 ?_
      exact GA.iret rfl dL_join_18 (by omega) (by omega) ⟨rfl, rfl⟩
    have H := it_f H e0
    by_cases e1 : x1 = exB + 2
    · have H := it_t H e1
      cases H
      subst e1
      rw [exn_2]
      refine GT.catch [⟨0, 12, 15, 21⟩] ⟨0, 12, 19, 15⟩ [] rfl (fun z hz => by
        simp only [List.mem_cons, List.not_mem_nil, or_false] at hz
        rcases hz with rfl
        · exact Or.inr ⟨by decide, "java/lang/IndexOutOfBoundsException", xcl_L_21, by decide⟩) (by decide) (by decide) xcl_L_15 xct_IllegalStateException (fun q9 => ?_)
      refine GA.astore dL_join_19 (by decide) ?_
      refine GA.iconst dL_join_21 ?_
      exact GA.iret rfl dL_join_22 (by omega) (by omega) ⟨rfl, rfl⟩
    · have H := it_f H e1
      cases H
set_option maxHeartbeats 4000000 in
set_option maxRecDepth 20000 in
theorem m_L_quarrel {l : Launch} {Z : XZ} {L : Nat → Nat} (hO : L 701 = 1) {n d : Nat} {S : GS} {a1 : Int} {x : Int} {S1 : GS} (H : f_L_quarrel n d 0 S [a1] = some (x, S1)) : GM l Z L yL_quarrel cL_quarrel 4 (some .int) [(0, 9, 12, 21)] d 1 6 [.ref (L 468), .int (J a1), .ref (L 600)] S (fun v S' => v = some (.int (J x)) ∧ S1 = S') (fun _ _ => False) := by
  unfold f_L_quarrel at H
  obtain ⟨hd, H⟩ := gg_e H
  obtain ⟨x1, S2, hc, H⟩ := gc_e H
  refine GM.ofH (by decide) (Nat.le_of_ble_eq_true rfl) ?_
  refine GA.aload_n dL_quarrel_0 rfl ?_
  refine GA.iconst dL_quarrel_1 ?_
  refine GA.aload_n dL_quarrel_2 rfl ?_
  refine GA.iload_n dL_quarrel_3 rfl ?_
  by_cases hb : x1 < exB
  · have H := it_t H hb
    obtain ⟨hg, H⟩ := gg_e H
    cases H
    refine GA.callH (m_X11_quarrel hc hb) xs_L_88 dL_quarrel_4 gs_468 (by decide) rfl rfl (by omega) (by decide) rfl (Nat.le_of_ble_eq_true rfl) (by omega) (by omega) (fun E S9 hx => hx.elim) (fun v S9 hq => ?_)
    obtain ⟨rfl, rfl⟩ := hq
    refine GV.i2l hg dL_quarrel_7 ?_
    refine GV.lastO hO rfl dL_quarrel_8 ?_
    refine GA.goto (tgt := 15) dL_quarrel_9 (by decide) ?_
    refine GA.iconst dL_quarrel_15 ?_
    exact GA.iret rfl dL_quarrel_16 (by omega) (by omega) ⟨rfl, rfl⟩
  · have H := it_f H hb
    refine GA.callH (mx_X11_quarrel hc hb) xs_L_88 dL_quarrel_4 gs_468 (by decide) rfl rfl (by omega) (by decide) rfl (Nat.le_of_ble_eq_true rfl) (by omega) (by omega) (fun E S9 hx => ?_) (fun v S9 hq => hq.elim)
    obtain ⟨rfl, rfl⟩ := hx
    by_cases e0 : x1 = exB + 3
    · have H := it_t H e0
      cases H
      subst e0
      rw [exn_3]
      refine GT.catch [] ⟨0, 9, 12, 21⟩ [] rfl (fun z hz => absurd hz List.not_mem_nil) (by decide) (by decide) xcl_L_21 xct_IndexOutOfBoundsException (fun q9 => ?_)
      refine GA.astore_n dL_quarrel_12 (by decide) ?_
      refine GA.iconst dL_quarrel_13 ?_
      exact GA.iret rfl dL_quarrel_14 (by omega) (by omega) ⟨rfl, rfl⟩
    · have H := it_f H e0
      cases H
set_option maxHeartbeats 4000000 in
set_option maxRecDepth 20000 in
theorem m_L_standard {l : Launch} {Z : XZ} {L : Nat → Nat} (hO : L 701 = 1) {n d : Nat} {S : GS} {x : Int} {S1 : GS} (H : f_L_standard n d 0 S [] = some (x, S1)) : GM l Z L yL_standard cL_standard 3 (some .int) [(0, 8, 11, 15)] d 1 6 [.ref (L 468), .ref (L 600)] S (fun v S' => v = some (.int (J x)) ∧ S1 = S') (fun _ _ => False) := by
  unfold f_L_standard at H
  obtain ⟨hd, H⟩ := gg_e H
  obtain ⟨x1, S2, hc, H⟩ := gc_e H
  refine GM.ofH (by decide) (Nat.le_of_ble_eq_true rfl) ?_
  refine GA.aload_n dL_standard_0 rfl ?_
  refine GA.iconst dL_standard_1 ?_
  refine GA.aload_n dL_standard_2 rfl ?_
  by_cases hb : x1 < exB
  · have H := it_t H hb
    obtain ⟨hg, H⟩ := gg_e H
    cases H
    refine GA.callH (m_X11_standard hc hb) xs_L_91 dL_standard_3 gs_468 (by decide) rfl rfl (by omega) (by decide) rfl (Nat.le_of_ble_eq_true rfl) (by omega) (by omega) (fun E S9 hx => hx.elim) (fun v S9 hq => ?_)
    obtain ⟨rfl, rfl⟩ := hq
    refine GV.i2l hg dL_standard_6 ?_
    refine GV.lastO hO rfl dL_standard_7 ?_
    refine GA.goto (tgt := 14) dL_standard_8 (by decide) ?_
    refine GA.iconst dL_standard_14 ?_
    exact GA.iret rfl dL_standard_15 (by omega) (by omega) ⟨rfl, rfl⟩
  · have H := it_f H hb
    refine GA.callH (mx_X11_standard hc hb) xs_L_91 dL_standard_3 gs_468 (by decide) rfl rfl (by omega) (by decide) rfl (Nat.le_of_ble_eq_true rfl) (by omega) (by omega) (fun E S9 hx => ?_) (fun v S9 hq => hq.elim)
    obtain ⟨rfl, rfl⟩ := hx
    by_cases e0 : x1 = exB + 2
    · have H := it_t H e0
      cases H
      subst e0
      rw [exn_2]
      refine GT.catch [] ⟨0, 8, 11, 15⟩ [] rfl (fun z hz => absurd hz List.not_mem_nil) (by decide) (by decide) xcl_L_15 xct_IllegalStateException (fun q9 => ?_)
      refine GA.astore_n dL_standard_11 (by decide) ?_
      refine GA.iconst dL_standard_12 ?_
      exact GA.iret rfl dL_standard_13 (by omega) (by omega) ⟨rfl, rfl⟩
    · have H := it_f H e0
      cases H
set_option maxHeartbeats 4000000 in
set_option maxRecDepth 20000 in
theorem m_L_check {l : Launch} {Z : XZ} {L : Nat → Nat} (hO : L 701 = 1) {n d : Nat} {S : GS} {a1 : Int} {a2 : Int} {x : Int} {S1 : GS} (H : f_L_check n d 0 S [a1, a2] = some (x, S1)) : GM l Z L yL_check cL_check 5 (some .int) [(0, 10, 13, 21), (0, 10, 17, 15)] d 1 6 [.ref (L 468), .int (J a1), .int (J a2), .ref (L 600)] S (fun v S' => v = some (.int (J x)) ∧ S1 = S') (fun _ _ => False) := by
  unfold f_L_check at H
  obtain ⟨hd, H⟩ := gg_e H
  obtain ⟨x1, S2, hc, H⟩ := gc_e H
  refine GM.ofH (by decide) (Nat.le_of_ble_eq_true rfl) ?_
  refine GA.aload_n dL_check_0 rfl ?_
  refine GA.iconst dL_check_1 ?_
  refine GA.aload_n dL_check_2 rfl ?_
  refine GA.iload_n dL_check_3 rfl ?_
  refine GA.iload_n dL_check_4 rfl ?_
  by_cases hb : x1 < exB
  · have H := it_t H hb
    obtain ⟨hg, H⟩ := gg_e H
    cases H
    refine GA.callH (m_X11_check hc hb) xs_L_94 dL_check_5 gs_468 (by decide) rfl rfl (by omega) (by decide) rfl (Nat.le_of_ble_eq_true rfl) (by omega) (by omega) (fun E S9 hx => hx.elim) (fun v S9 hq => ?_)
    obtain ⟨rfl, rfl⟩ := hq
    refine GV.i2l hg dL_check_8 ?_
    refine GV.lastO hO rfl dL_check_9 ?_
    refine GA.goto (tgt := 21) dL_check_10 (by decide) ?_
    refine GA.iconst dL_check_21 ?_
    exact GA.iret rfl dL_check_22 (by omega) (by omega) ⟨rfl, rfl⟩
  · have H := it_f H hb
    refine GA.callH (mx_X11_check hc hb) xs_L_94 dL_check_5 gs_468 (by decide) rfl rfl (by omega) (by decide) rfl (Nat.le_of_ble_eq_true rfl) (by omega) (by omega) (fun E S9 hx => ?_) (fun v S9 hq => hq.elim)
    obtain ⟨rfl, rfl⟩ := hx
    by_cases e0 : x1 = exB + 3
    · have H := it_t H e0
      cases H
      subst e0
      rw [exn_3]
      refine GT.catch [] ⟨0, 10, 13, 21⟩ [⟨0, 10, 17, 15⟩] rfl (fun z hz => absurd hz List.not_mem_nil) (by decide) (by decide) xcl_L_21 xct_IndexOutOfBoundsException (fun q9 => ?_)
      refine GA.astore dL_check_13 (by decide) ?_
      refine GA.iconst dL_check_15 ?_
      exact GA.iret rfl dL_check_16 (by omega) (by omega) ⟨rfl, rfl⟩
    have H := it_f H e0
    by_cases e1 : x1 = exB + 2
    · have H := it_t H e1
      cases H
      subst e1
      rw [exn_2]
      refine GT.catch [⟨0, 10, 13, 21⟩] ⟨0, 10, 17, 15⟩ [] rfl (fun z hz => by
        simp only [List.mem_cons, List.not_mem_nil, or_false] at hz
        rcases hz with rfl
        · exact Or.inr ⟨by decide, "java/lang/IndexOutOfBoundsException", xcl_L_21, by decide⟩) (by decide) (by decide) xcl_L_15 xct_IllegalStateException (fun q9 => ?_)
      refine GA.astore dL_check_17 (by decide) ?_
      refine GA.iconst dL_check_19 ?_
      exact GA.iret rfl dL_check_20 (by omega) (by omega) ⟨rfl, rfl⟩
    · have H := it_f H e1
      cases H
set_option maxHeartbeats 4000000 in
set_option maxRecDepth 20000 in
theorem m_L_complaint {l : Launch} {Z : XZ} {L : Nat → Nat} (hO : L 701 = 1) {n d : Nat} {S : GS} {a1 : Int} {a2 : Int} {x : Int} {S1 : GS} (H : f_L_complaint n d 0 S [a1, a2] = some (x, S1)) : GM l Z L yL_complaint cL_complaint 5 (some .int) [(0, 10, 13, 21), (0, 10, 17, 13)] d 1 6 [.ref (L 468), .int (J a1), .int (J a2), .ref (L 600)] S (fun v S' => v = some (.int (J x)) ∧ S1 = S') (fun _ _ => False) := by
  unfold f_L_complaint at H
  obtain ⟨hd, H⟩ := gg_e H
  obtain ⟨x1, S2, hc, H⟩ := gc_e H
  refine GM.ofH (by decide) (Nat.le_of_ble_eq_true rfl) ?_
  refine GA.aload_n dL_complaint_0 rfl ?_
  refine GA.iconst dL_complaint_1 ?_
  refine GA.aload_n dL_complaint_2 rfl ?_
  refine GA.iload_n dL_complaint_3 rfl ?_
  refine GA.iload_n dL_complaint_4 rfl ?_
  by_cases hb : x1 < exB
  · have H := it_t H hb
    obtain ⟨hg, H⟩ := gg_e H
    cases H
    refine GA.callH (m_X11_complaint hc hb) xs_L_97 dL_complaint_5 gs_468 (by decide) rfl rfl (by omega) (by decide) rfl (Nat.le_of_ble_eq_true rfl) (by omega) (by omega) (fun E S9 hx => hx.elim) (fun v S9 hq => ?_)
    obtain ⟨rfl, rfl⟩ := hq
    refine GV.i2l hg dL_complaint_8 ?_
    refine GV.lastO hO rfl dL_complaint_9 ?_
    refine GA.goto (tgt := 21) dL_complaint_10 (by decide) ?_
    refine GA.iconst dL_complaint_21 ?_
    exact GA.iret rfl dL_complaint_22 (by omega) (by omega) ⟨rfl, rfl⟩
  · have H := it_f H hb
    refine GA.callH (mx_X11_complaint hc hb) xs_L_97 dL_complaint_5 gs_468 (by decide) rfl rfl (by omega) (by decide) rfl (Nat.le_of_ble_eq_true rfl) (by omega) (by omega) (fun E S9 hx => ?_) (fun v S9 hq => hq.elim)
    obtain ⟨rfl, rfl⟩ := hx
    by_cases e0 : x1 = exB + 3
    · have H := it_t H e0
      cases H
      subst e0
      rw [exn_3]
      refine GT.catch [] ⟨0, 10, 13, 21⟩ [⟨0, 10, 17, 13⟩] rfl (fun z hz => absurd hz List.not_mem_nil) (by decide) (by decide) xcl_L_21 xct_IndexOutOfBoundsException (fun q9 => ?_)
      refine GA.astore dL_complaint_13 (by decide) ?_
      refine GA.iconst dL_complaint_15 ?_
      exact GA.iret rfl dL_complaint_16 (by omega) (by omega) ⟨rfl, rfl⟩
    have H := it_f H e0
    by_cases e1 : x1 = exB + 1
    · have H := it_t H e1
      cases H
      subst e1
      rw [exn_1]
      refine GT.catch [⟨0, 10, 13, 21⟩] ⟨0, 10, 17, 13⟩ [] rfl (fun z hz => by
        simp only [List.mem_cons, List.not_mem_nil, or_false] at hz
        rcases hz with rfl
        · exact Or.inr ⟨by decide, "java/lang/IndexOutOfBoundsException", xcl_L_21, by decide⟩) (by decide) (by decide) xcl_L_13 xct_IllegalArgumentException (fun q9 => ?_)
      refine GA.astore dL_complaint_17 (by decide) ?_
      refine GA.iconst dL_complaint_19 ?_
      exact GA.iret rfl dL_complaint_20 (by omega) (by omega) ⟨rfl, rfl⟩
    · have H := it_f H e1
      cases H
set_option maxHeartbeats 4000000 in
set_option maxRecDepth 20000 in
theorem m_L_columns {l : Launch} {Z : XZ} {L : Nat → Nat} (hO : L 701 = 1) {n d : Nat} {S : GS} {a1 : Int} {x : Int} {S1 : GS} (H : f_L_columns n d 0 S [a1] = some (x, S1)) : GM l Z L yL_columns cL_columns 4 (some .int) [(0, 9, 12, 21), (0, 9, 15, 15)] d 1 6 [.ref (L 468), .int (J a1), .ref (L 600)] S (fun v S' => v = some (.int (J x)) ∧ S1 = S') (fun _ _ => False) := by
  unfold f_L_columns at H
  obtain ⟨hd, H⟩ := gg_e H
  obtain ⟨x1, S2, hc, H⟩ := gc_e H
  refine GM.ofH (by decide) (Nat.le_of_ble_eq_true rfl) ?_
  refine GA.aload_n dL_columns_0 rfl ?_
  refine GA.iconst dL_columns_1 ?_
  refine GA.aload_n dL_columns_2 rfl ?_
  refine GA.iload_n dL_columns_3 rfl ?_
  by_cases hb : x1 < exB
  · have H := it_t H hb
    obtain ⟨hg, H⟩ := gg_e H
    cases H
    refine GA.callH (m_X11_columns hc hb) xs_L_100 dL_columns_4 gs_468 (by decide) rfl rfl (by omega) (by decide) rfl (Nat.le_of_ble_eq_true rfl) (by omega) (by omega) (fun E S9 hx => hx.elim) (fun v S9 hq => ?_)
    obtain ⟨rfl, rfl⟩ := hq
    refine GV.i2l hg dL_columns_7 ?_
    refine GV.lastO hO rfl dL_columns_8 ?_
    refine GA.goto (tgt := 18) dL_columns_9 (by decide) ?_
    refine GA.iconst dL_columns_18 ?_
    exact GA.iret rfl dL_columns_19 (by omega) (by omega) ⟨rfl, rfl⟩
  · have H := it_f H hb
    refine GA.callH (mx_X11_columns hc hb) xs_L_100 dL_columns_4 gs_468 (by decide) rfl rfl (by omega) (by decide) rfl (Nat.le_of_ble_eq_true rfl) (by omega) (by omega) (fun E S9 hx => ?_) (fun v S9 hq => hq.elim)
    obtain ⟨rfl, rfl⟩ := hx
    by_cases e0 : x1 = exB + 3
    · have H := it_t H e0
      cases H
      subst e0
      rw [exn_3]
      refine GT.catch [] ⟨0, 9, 12, 21⟩ [⟨0, 9, 15, 15⟩] rfl (fun z hz => absurd hz List.not_mem_nil) (by decide) (by decide) xcl_L_21 xct_IndexOutOfBoundsException (fun q9 => ?_)
      refine GA.astore_n dL_columns_12 (by decide) ?_
      refine GA.iconst dL_columns_13 ?_
      exact GA.iret rfl dL_columns_14 (by omega) (by omega) ⟨rfl, rfl⟩
    have H := it_f H e0
    by_cases e1 : x1 = exB + 2
    · have H := it_t H e1
      cases H
      subst e1
      rw [exn_2]
      refine GT.catch [⟨0, 9, 12, 21⟩] ⟨0, 9, 15, 15⟩ [] rfl (fun z hz => by
        simp only [List.mem_cons, List.not_mem_nil, or_false] at hz
        rcases hz with rfl
        · exact Or.inr ⟨by decide, "java/lang/IndexOutOfBoundsException", xcl_L_21, by decide⟩) (by decide) (by decide) xcl_L_15 xct_IllegalStateException (fun q9 => ?_)
      refine GA.astore_n dL_columns_15 (by decide) ?_
      refine GA.iconst dL_columns_16 ?_
      exact GA.iret rfl dL_columns_17 (by omega) (by omega) ⟨rfl, rfl⟩
    · have H := it_f H e1
      cases H
set_option maxHeartbeats 4000000 in
set_option maxRecDepth 20000 in
theorem m_L_rows {l : Launch} {Z : XZ} {L : Nat → Nat} (hO : L 701 = 1) {n d : Nat} {S : GS} {a1 : Int} {x : Int} {S1 : GS} (H : f_L_rows n d 0 S [a1] = some (x, S1)) : GM l Z L yL_rows cL_rows 4 (some .int) [(0, 9, 12, 21), (0, 9, 15, 15)] d 1 6 [.ref (L 468), .int (J a1), .ref (L 600)] S (fun v S' => v = some (.int (J x)) ∧ S1 = S') (fun _ _ => False) := by
  unfold f_L_rows at H
  obtain ⟨hd, H⟩ := gg_e H
  obtain ⟨x1, S2, hc, H⟩ := gc_e H
  refine GM.ofH (by decide) (Nat.le_of_ble_eq_true rfl) ?_
  refine GA.aload_n dL_rows_0 rfl ?_
  refine GA.iconst dL_rows_1 ?_
  refine GA.aload_n dL_rows_2 rfl ?_
  refine GA.iload_n dL_rows_3 rfl ?_
  by_cases hb : x1 < exB
  · have H := it_t H hb
    obtain ⟨hg, H⟩ := gg_e H
    cases H
    refine GA.callH (m_X11_rows hc hb) xs_L_103 dL_rows_4 gs_468 (by decide) rfl rfl (by omega) (by decide) rfl (Nat.le_of_ble_eq_true rfl) (by omega) (by omega) (fun E S9 hx => hx.elim) (fun v S9 hq => ?_)
    obtain ⟨rfl, rfl⟩ := hq
    refine GV.i2l hg dL_rows_7 ?_
    refine GV.lastO hO rfl dL_rows_8 ?_
    refine GA.goto (tgt := 18) dL_rows_9 (by decide) ?_
    refine GA.iconst dL_rows_18 ?_
    exact GA.iret rfl dL_rows_19 (by omega) (by omega) ⟨rfl, rfl⟩
  · have H := it_f H hb
    refine GA.callH (mx_X11_rows hc hb) xs_L_103 dL_rows_4 gs_468 (by decide) rfl rfl (by omega) (by decide) rfl (Nat.le_of_ble_eq_true rfl) (by omega) (by omega) (fun E S9 hx => ?_) (fun v S9 hq => hq.elim)
    obtain ⟨rfl, rfl⟩ := hx
    by_cases e0 : x1 = exB + 3
    · have H := it_t H e0
      cases H
      subst e0
      rw [exn_3]
      refine GT.catch [] ⟨0, 9, 12, 21⟩ [⟨0, 9, 15, 15⟩] rfl (fun z hz => absurd hz List.not_mem_nil) (by decide) (by decide) xcl_L_21 xct_IndexOutOfBoundsException (fun q9 => ?_)
      refine GA.astore_n dL_rows_12 (by decide) ?_
      refine GA.iconst dL_rows_13 ?_
      exact GA.iret rfl dL_rows_14 (by omega) (by omega) ⟨rfl, rfl⟩
    have H := it_f H e0
    by_cases e1 : x1 = exB + 2
    · have H := it_t H e1
      cases H
      subst e1
      rw [exn_2]
      refine GT.catch [⟨0, 9, 12, 21⟩] ⟨0, 9, 15, 15⟩ [] rfl (fun z hz => by
        simp only [List.mem_cons, List.not_mem_nil, or_false] at hz
        rcases hz with rfl
        · exact Or.inr ⟨by decide, "java/lang/IndexOutOfBoundsException", xcl_L_21, by decide⟩) (by decide) (by decide) xcl_L_15 xct_IllegalStateException (fun q9 => ?_)
      refine GA.astore_n dL_rows_15 (by decide) ?_
      refine GA.iconst dL_rows_16 ?_
      exact GA.iret rfl dL_rows_17 (by omega) (by omega) ⟨rfl, rfl⟩
    · have H := it_f H e1
      cases H
set_option maxHeartbeats 4000000 in
set_option maxRecDepth 20000 in
theorem m_L_grow {l : Launch} {Z : XZ} {L : Nat → Nat} (hO : L 701 = 1) {n d : Nat} {S : GS} {a1 : Int} {a2 : Int} {x : Int} {S1 : GS} (H : f_L_grow n d 0 S [a1, a2] = some (x, S1)) : GM l Z L yL_grow cL_grow 5 (some .int) [(0, 10, 13, 13), (0, 10, 17, 15)] d 1 6 [.ref (L 468), .int (J a1), .int (J a2), .ref (L 600)] S (fun v S' => v = some (.int (J x)) ∧ S1 = S') (fun _ _ => False) := by
  unfold f_L_grow at H
  obtain ⟨hd, H⟩ := gg_e H
  obtain ⟨x1, S2, hc, H⟩ := gc_e H
  refine GM.ofH (by decide) (Nat.le_of_ble_eq_true rfl) ?_
  refine GA.aload_n dL_grow_0 rfl ?_
  refine GA.iconst dL_grow_1 ?_
  refine GA.aload_n dL_grow_2 rfl ?_
  refine GA.iload_n dL_grow_3 rfl ?_
  refine GA.iload_n dL_grow_4 rfl ?_
  by_cases hb : x1 < exB
  · have H := it_t H hb
    obtain ⟨hg, H⟩ := gg_e H
    cases H
    refine GA.callH (m_X11_grow hc hb) xs_L_106 dL_grow_5 gs_468 (by decide) rfl rfl (by omega) (by decide) rfl (Nat.le_of_ble_eq_true rfl) (by omega) (by omega) (fun E S9 hx => hx.elim) (fun v S9 hq => ?_)
    obtain ⟨rfl, rfl⟩ := hq
    refine GV.i2l hg dL_grow_8 ?_
    refine GV.lastO hO rfl dL_grow_9 ?_
    refine GA.goto (tgt := 21) dL_grow_10 (by decide) ?_
    refine GA.iconst dL_grow_21 ?_
    exact GA.iret rfl dL_grow_22 (by omega) (by omega) ⟨rfl, rfl⟩
  · have H := it_f H hb
    refine GA.callH (mx_X11_grow hc hb) xs_L_106 dL_grow_5 gs_468 (by decide) rfl rfl (by omega) (by decide) rfl (Nat.le_of_ble_eq_true rfl) (by omega) (by omega) (fun E S9 hx => ?_) (fun v S9 hq => hq.elim)
    obtain ⟨rfl, rfl⟩ := hx
    by_cases e0 : x1 = exB + 1
    · have H := it_t H e0
      cases H
      subst e0
      rw [exn_1]
      refine GT.catch [] ⟨0, 10, 13, 13⟩ [⟨0, 10, 17, 15⟩] rfl (fun z hz => absurd hz List.not_mem_nil) (by decide) (by decide) xcl_L_13 xct_IllegalArgumentException (fun q9 => ?_)
      refine GA.astore dL_grow_13 (by decide) ?_
      refine GA.iconst dL_grow_15 ?_
      exact GA.iret rfl dL_grow_16 (by omega) (by omega) ⟨rfl, rfl⟩
    have H := it_f H e0
    by_cases e1 : x1 = exB + 2
    · have H := it_t H e1
      cases H
      subst e1
      rw [exn_2]
      refine GT.catch [⟨0, 10, 13, 13⟩] ⟨0, 10, 17, 15⟩ [] rfl (fun z hz => by
        simp only [List.mem_cons, List.not_mem_nil, or_false] at hz
        rcases hz with rfl
        · exact Or.inr ⟨by decide, "java/lang/IllegalArgumentException", xcl_L_13, by decide⟩) (by decide) (by decide) xcl_L_15 xct_IllegalStateException (fun q9 => ?_)
      refine GA.astore dL_grow_17 (by decide) ?_
      refine GA.iconst dL_grow_19 ?_
      exact GA.iret rfl dL_grow_20 (by omega) (by omega) ⟨rfl, rfl⟩
    · have H := it_f H e1
      cases H
set_option maxHeartbeats 4000000 in
set_option maxRecDepth 20000 in
theorem m_L_vary {l : Launch} {Z : XZ} {L : Nat → Nat} (hO : L 701 = 1) {n d : Nat} {S : GS} {a1 : Int} {a2 : Int} {x : Int} {S1 : GS} (H : f_L_vary n d 0 S [a1, a2] = some (x, S1)) : GM l Z L yL_vary cL_vary 5 (some .int) [(0, 10, 13, 21), (0, 10, 17, 13), (0, 10, 21, 15)] d 1 6 [.ref (L 468), .int (J a1), .int (J a2), .ref (L 600)] S (fun v S' => v = some (.int (J x)) ∧ S1 = S') (fun _ _ => False) := by
  unfold f_L_vary at H
  obtain ⟨hd, H⟩ := gg_e H
  obtain ⟨x1, S2, hc, H⟩ := gc_e H
  refine GM.ofH (by decide) (Nat.le_of_ble_eq_true rfl) ?_
  refine GA.aload_n dL_vary_0 rfl ?_
  refine GA.iconst dL_vary_1 ?_
  refine GA.aload_n dL_vary_2 rfl ?_
  refine GA.iload_n dL_vary_3 rfl ?_
  refine GA.iload_n dL_vary_4 rfl ?_
  by_cases hb : x1 < exB
  · have H := it_t H hb
    obtain ⟨hg, H⟩ := gg_e H
    cases H
    refine GA.callH (m_X11_vary hc hb) xs_L_109 dL_vary_5 gs_468 (by decide) rfl rfl (by omega) (by decide) rfl (Nat.le_of_ble_eq_true rfl) (by omega) (by omega) (fun E S9 hx => hx.elim) (fun v S9 hq => ?_)
    obtain ⟨rfl, rfl⟩ := hq
    refine GV.i2l hg dL_vary_8 ?_
    refine GV.lastO hO rfl dL_vary_9 ?_
    refine GA.goto (tgt := 25) dL_vary_10 (by decide) ?_
    refine GA.iconst dL_vary_25 ?_
    exact GA.iret rfl dL_vary_26 (by omega) (by omega) ⟨rfl, rfl⟩
  · have H := it_f H hb
    refine GA.callH (mx_X11_vary hc hb) xs_L_109 dL_vary_5 gs_468 (by decide) rfl rfl (by omega) (by decide) rfl (Nat.le_of_ble_eq_true rfl) (by omega) (by omega) (fun E S9 hx => ?_) (fun v S9 hq => hq.elim)
    obtain ⟨rfl, rfl⟩ := hx
    by_cases e0 : x1 = exB + 3
    · have H := it_t H e0
      cases H
      subst e0
      rw [exn_3]
      refine GT.catch [] ⟨0, 10, 13, 21⟩ [⟨0, 10, 17, 13⟩, ⟨0, 10, 21, 15⟩] rfl (fun z hz => absurd hz List.not_mem_nil) (by decide) (by decide) xcl_L_21 xct_IndexOutOfBoundsException (fun q9 => ?_)
      refine GA.astore dL_vary_13 (by decide) ?_
      refine GA.iconst dL_vary_15 ?_
      exact GA.iret rfl dL_vary_16 (by omega) (by omega) ⟨rfl, rfl⟩
    have H := it_f H e0
    by_cases e1 : x1 = exB + 1
    · have H := it_t H e1
      cases H
      subst e1
      rw [exn_1]
      refine GT.catch [⟨0, 10, 13, 21⟩] ⟨0, 10, 17, 13⟩ [⟨0, 10, 21, 15⟩] rfl (fun z hz => by
        simp only [List.mem_cons, List.not_mem_nil, or_false] at hz
        rcases hz with rfl
        · exact Or.inr ⟨by decide, "java/lang/IndexOutOfBoundsException", xcl_L_21, by decide⟩) (by decide) (by decide) xcl_L_13 xct_IllegalArgumentException (fun q9 => ?_)
      refine GA.astore dL_vary_17 (by decide) ?_
      refine GA.iconst dL_vary_19 ?_
      exact GA.iret rfl dL_vary_20 (by omega) (by omega) ⟨rfl, rfl⟩
    have H := it_f H e1
    by_cases e2 : x1 = exB + 2
    · have H := it_t H e2
      cases H
      subst e2
      rw [exn_2]
      refine GT.catch [⟨0, 10, 13, 21⟩, ⟨0, 10, 17, 13⟩] ⟨0, 10, 21, 15⟩ [] rfl (fun z hz => by
        simp only [List.mem_cons, List.not_mem_nil, or_false] at hz
        rcases hz with rfl | rfl
        · exact Or.inr ⟨by decide, "java/lang/IndexOutOfBoundsException", xcl_L_21, by decide⟩
        · exact Or.inr ⟨by decide, "java/lang/IllegalArgumentException", xcl_L_13, by decide⟩) (by decide) (by decide) xcl_L_15 xct_IllegalStateException (fun q9 => ?_)
      refine GA.astore dL_vary_21 (by decide) ?_
      refine GA.iconst dL_vary_23 ?_
      exact GA.iret rfl dL_vary_24 (by omega) (by omega) ⟨rfl, rfl⟩
    · have H := it_f H e2
      cases H
set_option maxHeartbeats 4000000 in
set_option maxRecDepth 20000 in
theorem m_L_sum {l : Launch} {Z : XZ} {L : Nat → Nat} (hO : L 701 = 1) {n d : Nat} {S : GS} {a1 : Int} {x : Int} {S1 : GS} (H : f_L_sum n d 0 S [a1] = some (x, S1)) : GM l Z L yL_sum cL_sum 4 (some .int) [(0, 9, 12, 13)] d 1 6 [.ref (L 468), .int (J a1), .ref (L 600)] S (fun v S' => v = some (.int (J x)) ∧ S1 = S') (fun _ _ => False) := by
  unfold f_L_sum at H
  obtain ⟨hd, H⟩ := gg_e H
  obtain ⟨x1, S2, hc, H⟩ := gc_e H
  refine GM.ofH (by decide) (Nat.le_of_ble_eq_true rfl) ?_
  refine GA.aload_n dL_sum_0 rfl ?_
  refine GA.iconst dL_sum_1 ?_
  refine GA.aload_n dL_sum_2 rfl ?_
  refine GA.iload_n dL_sum_3 rfl ?_
  by_cases hb : x1 < exB
  · have H := it_t H hb
    obtain ⟨hg, H⟩ := gg_e H
    cases H
    refine GA.callH (m_X11_sum hc hb) xs_L_112 dL_sum_4 gs_468 (by decide) rfl rfl (by omega) (by decide) rfl (Nat.le_of_ble_eq_true rfl) (by omega) (by omega) (fun E S9 hx => hx.elim) (fun v S9 hq => ?_)
    obtain ⟨rfl, rfl⟩ := hq
    refine GV.i2l hg dL_sum_7 ?_
    refine GV.lastO hO rfl dL_sum_8 ?_
    refine GA.goto (tgt := 15) dL_sum_9 (by decide) ?_
    refine GA.iconst dL_sum_15 ?_
    exact GA.iret rfl dL_sum_16 (by omega) (by omega) ⟨rfl, rfl⟩
  · have H := it_f H hb
    refine GA.callH (mx_X11_sum hc hb) xs_L_112 dL_sum_4 gs_468 (by decide) rfl rfl (by omega) (by decide) rfl (Nat.le_of_ble_eq_true rfl) (by omega) (by omega) (fun E S9 hx => ?_) (fun v S9 hq => hq.elim)
    obtain ⟨rfl, rfl⟩ := hx
    by_cases e0 : x1 = exB + 1
    · have H := it_t H e0
      cases H
      subst e0
      rw [exn_1]
      refine GT.catch [] ⟨0, 9, 12, 13⟩ [] rfl (fun z hz => absurd hz List.not_mem_nil) (by decide) (by decide) xcl_L_13 xct_IllegalArgumentException (fun q9 => ?_)
      refine GA.astore_n dL_sum_12 (by decide) ?_
      refine GA.iconst dL_sum_13 ?_
      exact GA.iret rfl dL_sum_14 (by omega) (by omega) ⟨rfl, rfl⟩
    · have H := it_f H e0
      cases H
set_option maxHeartbeats 4000000 in
set_option maxRecDepth 20000 in
theorem m_L_isSound {l : Launch} {Z : XZ} {L : Nat → Nat} (hO : L 701 = 1) {n d : Nat} {S : GS} {a1 : Int} {x : Int} {S1 : GS} (H : f_L_isSound n d 0 S [a1] = some (x, S1)) : GM l Z L yL_isSound cL_isSound 4 (some .int) [(0, 16, 19, 21)] d 1 6 [.ref (L 468), .int (J a1), .ref (L 600)] S (fun v S' => v = some (.int (J x)) ∧ S1 = S') (fun _ _ => False) := by
  unfold f_L_isSound at H
  obtain ⟨hd, H⟩ := gg_e H
  obtain ⟨x1, S2, hc, H⟩ := gc_e H
  refine GM.ofH (by decide) (Nat.le_of_ble_eq_true rfl) ?_
  refine GA.aload_n dL_isSound_0 rfl ?_
  refine GA.iconst dL_isSound_1 ?_
  refine GA.aload_n dL_isSound_2 rfl ?_
  refine GA.iload_n dL_isSound_3 rfl ?_
  by_cases hb : x1 < exB
  · have H := it_t H hb
    obtain ⟨hg, H⟩ := gg_e H
    cases H
    refine GA.callH (m_X11_isSound hc hb) xs_L_115 dL_isSound_4 gs_468 (by decide) rfl rfl (by omega) (by decide) rfl (Nat.le_of_ble_eq_true rfl) (by omega) (by omega) (fun E S9 hx => hx.elim) (fun v S9 hq => ?_)
    obtain ⟨rfl, rfl⟩ := hq
    rcases hg with rfl | rfl
    · refine GV.if_eq (tgt := 14) (by decide) dL_isSound_7 (by decide) (fun _ => ?_) (fun c9 => absurd rfl c9)
      refine GV.lconst (z := 0) (by decide) dL_isSound_14 ?_
      refine GV.lastO hO rfl dL_isSound_15 ?_
      refine GA.goto (tgt := 22) dL_isSound_16 (by decide) ?_
      refine GA.iconst dL_isSound_22 ?_
      exact GA.iret rfl dL_isSound_23 (by omega) (by omega) ⟨rfl, rfl⟩
    · refine GV.if_eq (tgt := 14) (by decide) dL_isSound_7 (by decide) (fun c9 => absurd c9 (by decide)) (fun _ => ?_)
      refine GV.lconst (z := 1) (by decide) dL_isSound_10 ?_
      refine GA.goto (tgt := 15) dL_isSound_11 (by decide) ?_
      refine GV.lastO hO rfl dL_isSound_15 ?_
      refine GA.goto (tgt := 22) dL_isSound_16 (by decide) ?_
      refine GA.iconst dL_isSound_22 ?_
      exact GA.iret rfl dL_isSound_23 (by omega) (by omega) ⟨rfl, rfl⟩
  · have H := it_f H hb
    refine GA.callH (mx_X11_isSound hc hb) xs_L_115 dL_isSound_4 gs_468 (by decide) rfl rfl (by omega) (by decide) rfl (Nat.le_of_ble_eq_true rfl) (by omega) (by omega) (fun E S9 hx => ?_) (fun v S9 hq => hq.elim)
    obtain ⟨rfl, rfl⟩ := hx
    by_cases e0 : x1 = exB + 3
    · have H := it_t H e0
      cases H
      subst e0
      rw [exn_3]
      refine GT.catch [] ⟨0, 16, 19, 21⟩ [] rfl (fun z hz => absurd hz List.not_mem_nil) (by decide) (by decide) xcl_L_21 xct_IndexOutOfBoundsException (fun q9 => ?_)
      refine GA.astore_n dL_isSound_19 (by decide) ?_
      refine GA.iconst dL_isSound_20 ?_
      exact GA.iret rfl dL_isSound_21 (by omega) (by omega) ⟨rfl, rfl⟩
    · have H := it_f H e0
      cases H
