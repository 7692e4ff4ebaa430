/-! THE L LAYER: the script, calls caught by the law -/
theorem J_and31 {a : Int} : J a &&& J 2147483647 = J (a % 2147483648) := by
  have h := pk_and (J a) (m := J 2147483647) 31 (by decide)
  rw [h]
  have e : (J a).toBitVec.toNat = (a % 4294967296).toNat := by
    show (BitVec.ofInt 32 a).toNat = _
    rw [BitVec.toNat_ofInt]
    rfl
  rw [e]
  have e2 : nI ((a % 4294967296).toNat % 2 ^ 31) = J (((a % 4294967296).toNat % 2 ^ 31 : Nat) : Int) := Int32.ofInt_eq_ofNat.symm
  rw [e2]
  congr 1
  omega
section LR
variable {l : Launch} {Z : XZ} {L : Nat → Nat} {y : MethodName} {cc : ByteArray} {nL : Nat} {ret : Option FieldType} {hh : List (Nat × Nat × Nat × Nat)} {d mc ms : Nat} {q : Option Value → GS → Prop} {qx : String → GS → Prop} {pc : Nat} {f : GL} {st rest : List Value} {S S1 : GS} {nc ns : Nat} {x : Int}
theorem GV.iand31 {a : Int} (hx : a % 2147483648 = x) (hdg : decode cc pc = .ok (.iand, 1)) (k : GA l Z L y cc nL ret hh d mc ms q qx (pc + 1) f (.int (J x) :: st) S nc ns) : GA l Z L y cc nL ret hh d mc ms q qx (pc) f (.int (J 2147483647) :: .int (J a) :: st) S nc ns := by subst hx; exact GA.iand hdg J_and31 k
theorem GV.sld {i : Int} (hg : 0 ≤ i ∧ i < ((Z.1.2.1 : Nat) : Int) ∧ i < 2147483648) (hx : (Z.1.2.2 i.toNat).toInt = x) (hdg : decode cc pc = .ok (.iaload, 1)) (k : GA l Z L y cc nL ret hh d mc ms q qx (pc + 1) f (.int (J x) :: st) S nc ns) : GA l Z L y cc nL ret hh d mc ms q qx (pc) f (.int (J i) :: .ref Z.1.1 :: st) S nc ns := by
  subst hx
  intro h lv hG hf
  refine XA.sld (J_in hg.1 hg.2.1 hg.2.2) ?_ hdg (k h lv hG hf)
  rw [J_nat hg.1 hg.2.2]
  exact (Int32.ofInt_toInt _).symm
theorem GV.slen (hdg : decode cc pc = .ok (.arraylength, 1)) (k : GA l Z L y cc nL ret hh d mc ms q qx (pc + 1) f (.int (J ((Z.1.2.1 : Nat) : Int)) :: st) S nc ns) : GA l Z L y cc nL ret hh d mc ms q qx (pc) f (.ref Z.1.1 :: st) S nc ns := fun h lv hG hf => XA.slen Int32.ofInt_eq_ofNat.symm hdg (k h lv hG hf)
theorem GA.callH {index ci c n nL2 d2 mc2 ms2 : Nat} {y2 : MethodName} {cc2 : ByteArray} {ret2 : Option FieldType} {Cn : String} {T : u_T} {N : Nat} {fs As : List Value} {q2 : Option Value → GS → Prop} {qx2 : String → GS → Prop} (hM : GM l Z L y2 cc2 nL2 ret2 [] d2 mc2 ms2 (.ref (L c) :: As) S q2 qx2) (hsite : XSiteV y.cls index Cn y2 cc2 nL2 ret2 n) (hdg : decode cc pc = .ok (.invokevirtual index, 3)) (hs : gsh L c (S.1 c) (S.2.1 c) (S.2.2 c) = some (xO ci fs)) (hc : c < 700) (hcl : vwCl[ci]? = some (Cn, T, N)) (hst : rest = As.reverse ++ .ref (L c) :: st) (hd : d2 + 1 ≤ d) (hn2 : nL2 ≤ 22) (hlen : As.length = n) (hcat : (st.map fun v => v.category).sum ≤ 8) (hc9 : nc + mc2 ≤ mc) (hs9 : ns + ms2 ≤ ms) (kx : ∀ E S', qx2 E S' → ∀ h' lv', Gh L S' h' → gLin f lv' → XT l Z y cc nL ret hh d mc ms (fun v h' => ∃ S', Gh L S' h' ∧ q v S') (fun E h' => ∃ S', Gh L S' h' ∧ qx E S') pc lv' st h' E (nc + mc2) (ns + ms2)) (kk : ∀ v S', q2 v S' → GA l Z L y cc nL ret hh d mc ms q qx (pc + 3) f (v.toList ++ st) S' (nc + mc2) (ns + ms2)) : GA l Z L y cc nL ret hh d mc ms q qx pc f rest S nc ns := fun h lv hG hf => XA.callV (hM h hG) hsite hdg (hG.2 c hc _ hs) hcl hst hd hn2 hlen hcat hc9 hs9 (fun E h' ⟨S', h1, h2⟩ => kx E S' h2 h' lv h1 hf) (fun v h' ⟨S', h1, h2⟩ => kk v S' h2 h' lv h1 hf)
theorem GT.catch {E name : String} (pre : List ExceptionTableEntry) (x9 : ExceptionTableEntry) (suf : List ExceptionTableEntry) (hsplit : tableOf hh = pre ++ x9 :: suf) (hpass : ∀ z ∈ pre, covers z pc = false ∨ (z.catchType ≠ 0 ∧ ∃ nm : String, Cond.classLink y.cls z.catchType nm ∈ xg ∧ (E, nm) ∈ xncs)) (hx : covers x9 pc = true) (h0 : x9.catchType ≠ 0) (hlink : Cond.classLink y.cls x9.catchType name ∈ xg) (hcast : Cond.castable E name ∈ lw_tbl) (k : ∀ q9 : Nat, GA l Z L y cc nL ret hh d mc ms q qx x9.handlerPc f [.ref q9] S nc ns) : ∀ h' lv', Gh L S h' → gLin f lv' → XT l Z y cc nL ret hh d mc ms (fun v h' => ∃ S', Gh L S' h' ∧ q v S') (fun E h' => ∃ S', Gh L S' h' ∧ qx E S') pc lv' st h' E nc ns := fun h' lv' hG hf => XT.catch pre x9 suf hsplit hpass hx h0 hlink hcast (fun q9 => k q9 h' lv' hG hf)
theorem GA.callW {index n nL2 d2 mc2 ms2 : Nat} {y2 : MethodName} {cc2 : ByteArray} {ret2 : Option FieldType} {As : List Value} {q2 : Option Value → GS → Prop} {qx2 : String → GS → Prop} {q0 : Nat × Nat × Nat × Nat} {hr : List (Nat × Nat × Nat × Nat)} (hM : GM l Z L y2 cc2 nL2 ret2 (q0 :: hr) d2 mc2 ms2 As S q2 qx2) (hsite : XSiteW y.cls index y2 cc2 nL2 ret2 (q0 :: hr) n) (hdg : decode cc pc = .ok (.invokestatic index, 3)) (hst : rest = As.reverse ++ st) (hd : d2 + 1 ≤ d) (hn2 : nL2 ≤ 22) (hlen : As.length = n) (hcat : (st.map fun v => v.category).sum ≤ 8) (hc9 : nc + mc2 ≤ mc) (hs9 : ns + ms2 ≤ ms) (hno : ∀ E S', ¬ qx2 E S') (kk : ∀ v S', q2 v S' → GA l Z L y cc nL ret hh d mc ms q qx (pc + 3) f (v.toList ++ st) S' (nc + mc2) (ns + ms2)) : GA l Z L y cc nL ret hh d mc ms q qx pc f rest S nc ns := fun h lv hG hf => XA.callW (hM h hG) hsite hdg hst hd hn2 hlen hcat hc9 hs9 (fun E h' ⟨S', h1, h2⟩ => absurd h2 (hno E S')) (fun v h' ⟨S', h1, h2⟩ => kk v S' h2 h' lv h1 hf)
end LR
set_option maxRecDepth 100000 in
theorem xct_IndexOutOfBoundsException : Cond.castable "java/lang/IndexOutOfBoundsException" "java/lang/IndexOutOfBoundsException" ∈ lw_tbl := xti 832 rfl
set_option maxRecDepth 100000 in
theorem xct_IllegalArgumentException : Cond.castable "java/lang/IllegalArgumentException" "java/lang/IllegalArgumentException" ∈ lw_tbl := xti 896 rfl
set_option maxRecDepth 100000 in
theorem xct_IllegalStateException : Cond.castable "java/lang/IllegalStateException" "java/lang/IllegalStateException" ∈ lw_tbl := xti 1083 rfl
def P_L_cell_0 (l : Launch) (Z : XZ) (L : Nat → Nat) (n : Nat) : Prop := ∀ (d : Nat) (S : GS) (a1 : Int) (x : Int) (S1 : GS), f_L_cell Z.1.2.1 (fun k => (Z.1.2.2 k).toInt) n d 0 S [a1] = some (x, S1) → ∀ nc ns : Nat, nc + 0 ≤ 0 ∧ ns + 0 ≤ 0 → GA l Z L yL_cell cL_cell 2 (some .int) [] d 0 0 (fun v S' => v = some (.int (J x)) ∧ S1 = S') (fun _ _ => False) 0 (gl [(0, .ref Z.1.1), (1, .int (J a1))]) [] S nc ns
set_option maxHeartbeats 16000000 in
set_option maxRecDepth 100000 in
theorem t_L_cell_0 {l : Launch} {Z : XZ} {L : Nat → Nat} (n : Nat) (ih_L_cell_0 : P_L_cell_0 l Z L n) : P_L_cell_0 l Z L (n + 1) := by
  intro d S a1 x S1 H nc ns hB
  have H : b_L_cell_0 Z.1.2.1 (fun k => (Z.1.2.2 k).toInt) n d (f_L_cell Z.1.2.1 (fun k => (Z.1.2.2 k).toInt) n) S a1 = some (x, S1) := H
  unfold b_L_cell_0 at H
  refine GA.iload_n dL_cell_0 rfl ?_
  refine GA.aload_n dL_cell_1 rfl ?_
  refine GV.slen dL_cell_2 ?_
  obtain ⟨hg1, H⟩ := gg_e H
  obtain ⟨hg2, H⟩ := gg_e H
  refine GV.icmp_ge (tgt := 12) hg1 hg2 dL_cell_3 (by decide) (fun c3 => ?_) (fun c3 => ?_)
  · have H := it_t H c3
    refine GA.ldc (v := 41010301) xc_L_7 dL_cell_12 ?_
    refine GA.iload_n dL_cell_14 rfl ?_
    obtain ⟨x4, hx5, H⟩ := gv_e H
    refine GV.imul hx5 dL_cell_15 ?_
    refine GA.ldc (v := 45007) xc_L_8 dL_cell_16 ?_
    obtain ⟨x6, hx7, H⟩ := gv_e H
    refine GV.iadd hx7 dL_cell_18 ?_
    cases H
    exact GA.iret rfl dL_cell_19 (by omega) (by omega) ⟨rfl, rfl⟩
  · have H := it_f H c3
    refine GA.aload_n dL_cell_6 rfl ?_
    refine GA.iload_n dL_cell_7 rfl ?_
    obtain ⟨hg8, H⟩ := gg_e H
    obtain ⟨x9, hx10, H⟩ := gv_e H
    refine GV.sld hg8 hx10 dL_cell_8 ?_
    refine GA.goto (tgt := 19) dL_cell_9 (by decide) ?_
    cases H
    exact GA.iret rfl dL_cell_19 (by omega) (by omega) ⟨rfl, rfl⟩
theorem g_L_cell {l : Launch} {Z : XZ} {L : Nat → Nat} : ∀ n, P_L_cell_0 l Z L n
  | 0 => fun _ _ _ _ _ H => no_e H
  | n + 1 => t_L_cell_0 n (g_L_cell n)
theorem m_L_cell {l : Launch} {Z : XZ} {L : Nat → Nat} {n d : Nat} {S : GS} {a1 : Int} {x : Int} {S1 : GS} (H : f_L_cell Z.1.2.1 (fun k => (Z.1.2.2 k).toInt) n d 0 S [a1] = some (x, S1)) : GM l Z L yL_cell cL_cell 2 (some .int) [] d 0 0 [.ref Z.1.1, .int (J a1)] S (fun v S' => v = some (.int (J x)) ∧ S1 = S') (fun _ _ => False) := GM.of (by decide) (Nat.le_of_ble_eq_true rfl) ((g_L_cell n) _ _ _ _ _ H 0 0 (by omega))
def P_L_low_0 (l : Launch) (Z : XZ) (L : Nat → Nat) (n : Nat) : Prop := ∀ (d : Nat) (S : GS) (a0 : Int) (a1 : Int) (x : Int) (S1 : GS), f_L_low Z.1.2.1 (fun k => (Z.1.2.2 k).toInt) n d 0 S [a0, a1] = some (x, S1) → ∀ nc ns : Nat, nc + 0 ≤ 0 ∧ ns + 0 ≤ 0 → GA l Z L yL_low cL_low 2 (some .int) [] d 0 0 (fun v S' => v = some (.int (J x)) ∧ S1 = S') (fun _ _ => False) 0 (gl [(0, .int (J a0)), (1, .int (J a1))]) [] S nc ns
set_option maxHeartbeats 16000000 in
set_option maxRecDepth 100000 in
theorem t_L_low_0 {l : Launch} {Z : XZ} {L : Nat → Nat} (n : Nat) (ih_L_low_0 : P_L_low_0 l Z L n) : P_L_low_0 l Z L (n + 1) := by
  intro d S a0 a1 x S1 H nc ns hB
  have H : b_L_low_0 Z.1.2.1 (fun k => (Z.1.2.2 k).toInt) n d (f_L_low Z.1.2.1 (fun k => (Z.1.2.2 k).toInt) n) S a0 a1 = some (x, S1) := H
  unfold b_L_low_0 at H
  refine GA.iload_n dL_low_0 rfl ?_
  refine GA.ldc (v := 2147483647) xc_L_9 dL_low_1 ?_
  obtain ⟨x1, hx2, H⟩ := gv_e H
  refine GV.iand31 hx2 dL_low_3 ?_
  refine GA.iload_n dL_low_4 rfl ?_
  obtain ⟨hg3, H⟩ := gg_e H
  obtain ⟨x4, hx5, H⟩ := gv_e H
  refine GV.irem hg3 hx5 dL_low_5 ?_
  cases H
  exact GA.iret rfl dL_low_6 (by omega) (by omega) ⟨rfl, rfl⟩
theorem g_L_low {l : Launch} {Z : XZ} {L : Nat → Nat} : ∀ n, P_L_low_0 l Z L n
  | 0 => fun _ _ _ _ _ _ H => no_e H
  | n + 1 => t_L_low_0 n (g_L_low n)
theorem m_L_low {l : Launch} {Z : XZ} {L : Nat → Nat} {n d : Nat} {S : GS} {a0 : Int} {a1 : Int} {x : Int} {S1 : GS} (H : f_L_low Z.1.2.1 (fun k => (Z.1.2.2 k).toInt) n d 0 S [a0, a1] = some (x, S1)) : GM l Z L yL_low cL_low 2 (some .int) [] d 0 0 [.int (J a0), .int (J a1)] S (fun v S' => v = some (.int (J x)) ∧ S1 = S') (fun _ _ => False) := GM.of (by decide) (Nat.le_of_ble_eq_true rfl) ((g_L_low n) _ _ _ _ _ _ H 0 0 (by omega))
set_option maxHeartbeats 4000000 in
set_option maxRecDepth 20000 in
theorem m_L_tryPatch {l : Launch} {Z : XZ} {L : Nat → Nat} {n d : Nat} {S : GS} {a1 : Int} {a2 : Int} {x : Int} {S1 : GS} {XL : Nat} {XS : Nat → Int} (H : f_L_tryPatch XL XS n d 0 S [a1, a2] = some (x, S1)) : GM l Z L yL_tryPatch cL_tryPatch 4 (some .int) [(0, 6, 7, 16)] d 1 6 [.ref (L 468), .int (J a1), .int (J a2)] S (fun v S' => v = some (.int (J x)) ∧ S1 = S') (fun _ _ => False) := by
  unfold f_L_tryPatch at H
  obtain ⟨hd, H⟩ := gg_e H
  obtain ⟨x1, S2, hc, H⟩ := gc_e H
  refine GM.ofH (by decide) (Nat.le_of_ble_eq_true rfl) ?_
  refine GA.aload_n dL_tryPatch_0 rfl ?_
  refine GA.iload_n dL_tryPatch_1 rfl ?_
  refine GA.iload_n dL_tryPatch_2 rfl ?_
  by_cases hb : x1 < exB
  · have H := it_t H hb
    cases H
    refine GA.callH (m_X11_patch hc hb) xs_L_10 dL_tryPatch_3 gs_468 (by decide) rfl rfl (by omega) (by decide) rfl (Nat.le_of_ble_eq_true rfl) (by omega) (by omega) (fun E S9 hx => hx.elim) (fun v S9 hq => ?_)
    obtain ⟨rfl, rfl⟩ := hq
    exact GA.iret rfl dL_tryPatch_6 (by omega) (by omega) ⟨rfl, rfl⟩
  · have H := it_f H hb
    refine GA.callH (mx_X11_patch hc hb) xs_L_10 dL_tryPatch_3 gs_468 (by decide) rfl rfl (by omega) (by decide) rfl (Nat.le_of_ble_eq_true rfl) (by omega) (by omega) (fun E S9 hx => ?_) (fun v S9 hq => hq.elim)
    obtain ⟨rfl, rfl⟩ := hx
    by_cases e0 : x1 = exB + 2
    · have H := it_t H e0
      cases H
      subst e0
      rw [exn_2]
      refine GT.catch [] ⟨0, 6, 7, 16⟩ [] rfl (fun z hz => absurd hz List.not_mem_nil) (by decide) (by decide) xcl_L_16 xct_IllegalStateException (fun q9 => ?_)
      refine GA.astore_n dL_tryPatch_7 (by decide) ?_
      refine GA.iconst dL_tryPatch_8 ?_
      exact GA.iret rfl dL_tryPatch_9 (by omega) (by omega) ⟨rfl, rfl⟩
    · have H := it_f H e0
      cases H
set_option maxHeartbeats 4000000 in
set_option maxRecDepth 20000 in
theorem m_L_tryTurn {l : Launch} {Z : XZ} {L : Nat → Nat} {n d : Nat} {S : GS} {a1 : Int} {a2 : Int} {x : Int} {S1 : GS} {XL : Nat} {XS : Nat → Int} (H : f_L_tryTurn XL XS n d 0 S [a1, a2] = some (x, S1)) : GM l Z L yL_tryTurn cL_tryTurn 4 (some .int) [(0, 6, 7, 16)] d 1 6 [.ref (L 468), .int (J a1), .int (J a2)] S (fun v S' => v = some (.int (J x)) ∧ S1 = S') (fun _ _ => False) := by
  unfold f_L_tryTurn at H
  obtain ⟨hd, H⟩ := gg_e H
  obtain ⟨x1, S2, hc, H⟩ := gc_e H
  refine GM.ofH (by decide) (Nat.le_of_ble_eq_true rfl) ?_
  refine GA.aload_n dL_tryTurn_0 rfl ?_
  refine GA.iload_n dL_tryTurn_1 rfl ?_
  refine GA.iload_n dL_tryTurn_2 rfl ?_
  by_cases hb : x1 < exB
  · have H := it_t H hb
    cases H
    refine GA.callH (m_X11_turn hc hb) xs_L_18 dL_tryTurn_3 gs_468 (by decide) rfl rfl (by omega) (by decide) rfl (Nat.le_of_ble_eq_true rfl) (by omega) (by omega) (fun E S9 hx => hx.elim) (fun v S9 hq => ?_)
    obtain ⟨rfl, rfl⟩ := hq
    exact GA.iret rfl dL_tryTurn_6 (by omega) (by omega) ⟨rfl, rfl⟩
  · have H := it_f H hb
    refine GA.callH (mx_X11_turn hc hb) xs_L_18 dL_tryTurn_3 gs_468 (by decide) rfl rfl (by omega) (by decide) rfl (Nat.le_of_ble_eq_true rfl) (by omega) (by omega) (fun E S9 hx => ?_) (fun v S9 hq => hq.elim)
    obtain ⟨rfl, rfl⟩ := hx
    by_cases e0 : x1 = exB + 2
    · have H := it_t H e0
      cases H
      subst e0
      rw [exn_2]
      refine GT.catch [] ⟨0, 6, 7, 16⟩ [] rfl (fun z hz => absurd hz List.not_mem_nil) (by decide) (by decide) xcl_L_16 xct_IllegalStateException (fun q9 => ?_)
      refine GA.astore_n dL_tryTurn_7 (by decide) ?_
      refine GA.iconst dL_tryTurn_8 ?_
      exact GA.iret rfl dL_tryTurn_9 (by omega) (by omega) ⟨rfl, rfl⟩
    · have H := it_f H e0
      cases H
set_option maxHeartbeats 4000000 in
set_option maxRecDepth 20000 in
theorem m_L_tryVary {l : Launch} {Z : XZ} {L : Nat → Nat} {n d : Nat} {S : GS} {a1 : Int} {a2 : Int} {x : Int} {S1 : GS} {XL : Nat} {XS : Nat → Int} (H : f_L_tryVary XL XS n d 0 S [a1, a2] = some (x, S1)) : GM l Z L yL_tryVary cL_tryVary 4 (some .int) [(0, 6, 7, 16)] d 1 6 [.ref (L 468), .int (J a1), .int (J a2)] S (fun v S' => v = some (.int (J x)) ∧ S1 = S') (fun _ _ => False) := by
  unfold f_L_tryVary at H
  obtain ⟨hd, H⟩ := gg_e H
  obtain ⟨x1, S2, hc, H⟩ := gc_e H
  refine GM.ofH (by decide) (Nat.le_of_ble_eq_true rfl) ?_
  refine GA.aload_n dL_tryVary_0 rfl ?_
  refine GA.iload_n dL_tryVary_1 rfl ?_
  refine GA.iload_n dL_tryVary_2 rfl ?_
  by_cases hb : x1 < exB
  · have H := it_t H hb
    cases H
    refine GA.callH (m_X11_vary hc hb) xs_L_21 dL_tryVary_3 gs_468 (by decide) rfl rfl (by omega) (by decide) rfl (Nat.le_of_ble_eq_true rfl) (by omega) (by omega) (fun E S9 hx => hx.elim) (fun v S9 hq => ?_)
    obtain ⟨rfl, rfl⟩ := hq
    exact GA.iret rfl dL_tryVary_6 (by omega) (by omega) ⟨rfl, rfl⟩
  · have H := it_f H hb
    refine GA.callH (mx_X11_vary hc hb) xs_L_21 dL_tryVary_3 gs_468 (by decide) rfl rfl (by omega) (by decide) rfl (Nat.le_of_ble_eq_true rfl) (by omega) (by omega) (fun E S9 hx => ?_) (fun v S9 hq => hq.elim)
    obtain ⟨rfl, rfl⟩ := hx
    by_cases e0 : x1 = exB + 2
    · have H := it_t H e0
      cases H
      subst e0
      rw [exn_2]
      refine GT.catch [] ⟨0, 6, 7, 16⟩ [] rfl (fun z hz => absurd hz List.not_mem_nil) (by decide) (by decide) xcl_L_16 xct_IllegalStateException (fun q9 => ?_)
      refine GA.astore_n dL_tryVary_7 (by decide) ?_
      refine GA.iconst dL_tryVary_8 ?_
      exact GA.iret rfl dL_tryVary_9 (by omega) (by omega) ⟨rfl, rfl⟩
    · have H := it_f H e0
      cases H
set_option maxHeartbeats 4000000 in
set_option maxRecDepth 20000 in
theorem m_L_tryJoin {l : Launch} {Z : XZ} {L : Nat → Nat} {n d : Nat} {S : GS} {a1 : Int} {a2 : Int} {a3 : Int} {x : Int} {S1 : GS} {XL : Nat} {XS : Nat → Int} (H : f_L_tryJoin XL XS n d 0 S [a1, a2, a3] = some (x, S1)) : GM l Z L yL_tryJoin cL_tryJoin 5 (some .int) [(0, 7, 8, 16)] d 1 6 [.ref (L 468), .int (J a1), .int (J a2), .int (J a3)] S (fun v S' => v = some (.int (J x)) ∧ S1 = S') (fun _ _ => False) := by
  unfold f_L_tryJoin at H
  obtain ⟨hd, H⟩ := gg_e H
  obtain ⟨x1, S2, hc, H⟩ := gc_e H
  refine GM.ofH (by decide) (Nat.le_of_ble_eq_true rfl) ?_
  refine GA.aload_n dL_tryJoin_0 rfl ?_
  refine GA.iload_n dL_tryJoin_1 rfl ?_
  refine GA.iload_n dL_tryJoin_2 rfl ?_
  refine GA.iload_n dL_tryJoin_3 rfl ?_
  by_cases hb : x1 < exB
  · have H := it_t H hb
    cases H
    refine GA.callH (m_X11_join hc hb) xs_L_24 dL_tryJoin_4 gs_468 (by decide) rfl rfl (by omega) (by decide) rfl (Nat.le_of_ble_eq_true rfl) (by omega) (by omega) (fun E S9 hx => hx.elim) (fun v S9 hq => ?_)
    obtain ⟨rfl, rfl⟩ := hq
    exact GA.iret rfl dL_tryJoin_7 (by omega) (by omega) ⟨rfl, rfl⟩
  · have H := it_f H hb
    refine GA.callH (mx_X11_join hc hb) xs_L_24 dL_tryJoin_4 gs_468 (by decide) rfl rfl (by omega) (by decide) rfl (Nat.le_of_ble_eq_true rfl) (by omega) (by omega) (fun E S9 hx => ?_) (fun v S9 hq => hq.elim)
    obtain ⟨rfl, rfl⟩ := hx
    by_cases e0 : x1 = exB + 2
    · have H := it_t H e0
      cases H
      subst e0
      rw [exn_2]
      refine GT.catch [] ⟨0, 7, 8, 16⟩ [] rfl (fun z hz => absurd hz List.not_mem_nil) (by decide) (by decide) xcl_L_16 xct_IllegalStateException (fun q9 => ?_)
      refine GA.astore dL_tryJoin_8 (by decide) ?_
      refine GA.bipush dL_tryJoin_10 rfl ?_
      exact GA.iret rfl dL_tryJoin_12 (by omega) (by omega) ⟨rfl, rfl⟩
    · have H := it_f H e0
      cases H
def P_L_retyped_0 (l : Launch) (Z : XZ) (L : Nat → Nat) (n : Nat) : Prop := ∀ (d : Nat) (S : GS) (x : Int) (S1 : GS), f_L_retyped Z.1.2.1 (fun k => (Z.1.2.2 k).toInt) n d 0 S [] = some (x, S1) → ∀ nc ns : Nat, nc + 0 ≤ 0 ∧ ns + 0 ≤ 0 → GA l Z L yL_retyped cL_retyped 6 (some .boolean) [] d 0 0 (fun v S' => v = some (.int (J x)) ∧ S1 = S') (fun _ _ => False) 0 (gl [(0, .ref (L 468))]) [] S nc ns
def P_L_retyped_22 (l : Launch) (Z : XZ) (L : Nat → Nat) (n : Nat) : Prop := ∀ (d : Nat) (S : GS) (a1 : Int) (a3 : Int) (x : Int) (S1 : GS), f_L_retyped Z.1.2.1 (fun k => (Z.1.2.2 k).toInt) n d 22 S [a1, a3] = some (x, S1) → ∀ nc ns : Nat, nc + 0 ≤ 0 ∧ ns + 0 ≤ 0 → GA l Z L yL_retyped cL_retyped 6 (some .boolean) [] d 0 0 (fun v S' => v = some (.int (J x)) ∧ S1 = S') (fun _ _ => False) 22 (gl [(0, .ref (L 468)), (1, .int (J a1)), (3, .int (J a3))]) [] S nc ns
def P_L_retyped_43 (l : Launch) (Z : XZ) (L : Nat → Nat) (n : Nat) : Prop := ∀ (d : Nat) (S : GS) (a1 : Int) (a3 : Int) (s0 : Int) (x : Int) (S1 : GS), f_L_retyped Z.1.2.1 (fun k => (Z.1.2.2 k).toInt) n d 43 S [a1, a3, s0] = some (x, S1) → ∀ nc ns : Nat, nc + 0 ≤ 0 ∧ ns + 0 ≤ 0 → GA l Z L yL_retyped cL_retyped 6 (some .boolean) [] d 0 0 (fun v S' => v = some (.int (J x)) ∧ S1 = S') (fun _ _ => False) 43 (gl [(0, .ref (L 468)), (1, .int (J a1)), (3, .int (J a3))]) [.int (J s0)] S nc ns
set_option maxHeartbeats 16000000 in
set_option maxRecDepth 100000 in
theorem t_L_retyped_0 {l : Launch} {Z : XZ} {L : Nat → Nat} (n : Nat) (ih_L_retyped_0 : P_L_retyped_0 l Z L n) (ih_L_retyped_22 : P_L_retyped_22 l Z L n) (ih_L_retyped_43 : P_L_retyped_43 l Z L n) : P_L_retyped_0 l Z L (n + 1) := by
  intro d S  x S1 H nc ns hB
  have H : b_L_retyped_0 Z.1.2.1 (fun k => (Z.1.2.2 k).toInt) n d (f_L_retyped Z.1.2.1 (fun k => (Z.1.2.2 k).toInt) n) S  = some (x, S1) := H
  unfold b_L_retyped_0 at H
  refine GA.aload_n dL_retyped_0 rfl ?_
  refine GA.iconst dL_retyped_1 ?_
  obtain ⟨hg1, H⟩ := gg_e H
  obtain ⟨x2, S_3, hc4, H⟩ := gc_e H
  by_cases hb5 : x2 < exB
  case neg =>
    have H := it_f H hb5
    cases H
  have H := it_t H hb5
  refine GA.callV (m_X11_sum hc4 hb5) xs_L_28 dL_retyped_2 gs_468 (by decide) rfl rfl (by omega) (by decide) rfl (Nat.le_of_ble_eq_true rfl) (by omega) (by omega) rfl (fun E S9 hx => hx.elim) (fun v S9 hq => ?_)
  obtain ⟨rfl, rfl⟩ := hq
  refine GA.istore_n dL_retyped_5 (by decide) ?_
  refine GA.iload_n dL_retyped_6 rfl ?_
  refine GA.sipush dL_retyped_7 rfl ?_
  obtain ⟨hg6, H⟩ := gg_e H
  refine GV.icmp_le (tgt := 15) hg6 (by decide) dL_retyped_10 (by decide) (fun c7 => ?_) (fun c7 => ?_)
  · have H := it_t H c7
    refine GA.aload_n dL_retyped_15 rfl ?_
    obtain ⟨x8, S_9, hc10, H⟩ := gc_e H
    refine GA.callV (m_X11_wipe hc10) xs_L_32 dL_retyped_16 gs_468 (by decide) rfl rfl (by omega) (by decide) rfl (Nat.le_of_ble_eq_true rfl) (by omega) (by omega) rfl (fun E S9 hx => hx.elim) (fun v S9 hq => ?_)
    obtain ⟨rfl, rfl⟩ := hq
    refine GA.istore_n dL_retyped_19 (by decide) ?_
    refine GA.iconst dL_retyped_20 ?_
    refine GA.istore_n dL_retyped_21 (by decide) ?_
    refine GA.locals [(0, .ref (L 468)), (1, .int (J x2)), (3, .int (J 0))] ⟨rfl, rfl, rfl, trivial⟩ ?_
    exact ih_L_retyped_22 _ _ (x2) (0) _ _ H _ _ (by omega)
  · have H := it_f H c7
    refine GA.iconst dL_retyped_13 ?_
    cases H
    exact GV.zret (by decide) rfl dL_retyped_14 (by omega) (by omega) ⟨rfl, rfl⟩
set_option maxHeartbeats 16000000 in
set_option maxRecDepth 100000 in
theorem t_L_retyped_22 {l : Launch} {Z : XZ} {L : Nat → Nat} (n : Nat) (ih_L_retyped_0 : P_L_retyped_0 l Z L n) (ih_L_retyped_22 : P_L_retyped_22 l Z L n) (ih_L_retyped_43 : P_L_retyped_43 l Z L n) : P_L_retyped_22 l Z L (n + 1) := by
  intro d S a1 a3 x S1 H nc ns hB
  have H : b_L_retyped_22 Z.1.2.1 (fun k => (Z.1.2.2 k).toInt) n d (f_L_retyped Z.1.2.1 (fun k => (Z.1.2.2 k).toInt) n) S a1 a3 = some (x, S1) := H
  unfold b_L_retyped_22 at H
  refine GA.iload_n dL_retyped_22 rfl ?_
  refine GA.iload_n dL_retyped_23 rfl ?_
  obtain ⟨hg1, H⟩ := gg_e H
  obtain ⟨hg2, H⟩ := gg_e H
  refine GV.icmp_ge (tgt := 66) hg1 hg2 dL_retyped_24 (by decide) (fun c3 => ?_) (fun c3 => ?_)
  · have H := it_t H c3
    refine GA.aload_n dL_retyped_66 rfl ?_
    refine GA.iconst dL_retyped_67 ?_
    obtain ⟨hg4, H⟩ := gg_e H
    obtain ⟨x5, S_6, hc7, H⟩ := gc_e H
    by_cases hb8 : x5 < exB
    case neg =>
      have H := it_f H hb8
      cases H
    have H := it_t H hb8
    refine GA.callV (m_X11_sum hc7 hb8) xs_L_28 dL_retyped_68 gs_468 (by decide) rfl rfl (by omega) (by decide) rfl (Nat.le_of_ble_eq_true rfl) (by omega) (by omega) rfl (fun E S9 hx => hx.elim) (fun v S9 hq => ?_)
    obtain ⟨rfl, rfl⟩ := hq
    refine GA.iload_n dL_retyped_71 rfl ?_
    obtain ⟨hg9, H⟩ := gg_e H
    refine GV.icmp_ne (tgt := 79) hg9 hg2 dL_retyped_72 (by decide) (fun c10 => ?_) (fun c10 => ?_)
    · have H := it_t H c10
      refine GA.iconst dL_retyped_79 ?_
      cases H
      exact GV.zret (by decide) rfl dL_retyped_80 (by omega) (by omega) ⟨rfl, rfl⟩
    · have H := it_f H c10
      refine GA.iconst dL_retyped_75 ?_
      refine GA.goto (tgt := 80) dL_retyped_76 (by decide) ?_
      cases H
      exact GV.zret (by decide) rfl dL_retyped_80 (by omega) (by omega) ⟨rfl, rfl⟩
  · have H := it_f H c3
    refine GA.iload_n dL_retyped_27 rfl ?_
    refine GA.iload_n dL_retyped_28 rfl ?_
    obtain ⟨x11, hx12, H⟩ := gv_e H
    refine GV.isub hx12 dL_retyped_29 ?_
    refine GA.bipush dL_retyped_30 rfl ?_
    obtain ⟨hg13, H⟩ := gg_e H
    refine GV.icmp_ge (tgt := 41) hg13 (by decide) dL_retyped_32 (by decide) (fun c14 => ?_) (fun c14 => ?_)
    · have H := it_t H c14
      refine GA.bipush dL_retyped_41 rfl ?_
      refine GA.locals [(0, .ref (L 468)), (1, .int (J a1)), (3, .int (J a3))] ⟨rfl, rfl, rfl, trivial⟩ ?_
      exact ih_L_retyped_43 _ _ (a1) (a3) (7) _ _ H _ _ (by omega)
    · have H := it_f H c14
      refine GA.iload_n dL_retyped_35 rfl ?_
      refine GA.iload_n dL_retyped_36 rfl ?_
      obtain ⟨x15, hx16, H⟩ := gv_e H
      refine GV.isub hx16 dL_retyped_37 ?_
      refine GA.goto (tgt := 43) dL_retyped_38 (by decide) ?_
      refine GA.locals [(0, .ref (L 468)), (1, .int (J a1)), (3, .int (J a3))] ⟨rfl, rfl, rfl, trivial⟩ ?_
      exact ih_L_retyped_43 _ _ (a1) (a3) (x15) _ _ H _ _ (by omega)
set_option maxHeartbeats 16000000 in
set_option maxRecDepth 100000 in
theorem t_L_retyped_43 {l : Launch} {Z : XZ} {L : Nat → Nat} (n : Nat) (ih_L_retyped_0 : P_L_retyped_0 l Z L n) (ih_L_retyped_22 : P_L_retyped_22 l Z L n) (ih_L_retyped_43 : P_L_retyped_43 l Z L n) : P_L_retyped_43 l Z L (n + 1) := by
  intro d S a1 a3 s0 x S1 H nc ns hB
  have H : b_L_retyped_43 Z.1.2.1 (fun k => (Z.1.2.2 k).toInt) n d (f_L_retyped Z.1.2.1 (fun k => (Z.1.2.2 k).toInt) n) S a1 a3 s0 = some (x, S1) := H
  unfold b_L_retyped_43 at H
  refine GA.istore dL_retyped_43 (by decide) ?_
  refine GA.aload_n dL_retyped_45 rfl ?_
  refine GA.iload dL_retyped_46 rfl ?_
  refine GA.aload_n dL_retyped_48 rfl ?_
  refine GA.iload_n dL_retyped_49 rfl ?_
  refine GA.iload dL_retyped_50 rfl ?_
  obtain ⟨hg1, H⟩ := gg_e H
  obtain ⟨x2, S_3, hc4, H⟩ := gc_e H
  by_cases hb5 : x2 < exB
  case neg =>
    have H := it_f H hb5
    cases H
  have H := it_t H hb5
  refine GA.callV (m_X11_paper hc4 hb5) xs_L_36 dL_retyped_52 gs_468 (by decide) rfl rfl (by omega) (by decide) rfl (Nat.le_of_ble_eq_true rfl) (by omega) (by omega) rfl (fun E S9 hx => hx.elim) (fun v S9 hq => ?_)
  obtain ⟨rfl, rfl⟩ := hq
  obtain ⟨x6, S_7, hc8, H⟩ := gc_e H
  by_cases hb9 : x6 < exB
  case neg =>
    have H := it_f H hb9
    cases H
  have H := it_t H hb9
  refine GA.callV (m_X11_write hc8 hb9) xs_L_40 dL_retyped_55 gs_468 (by decide) rfl rfl (by omega) (by decide) rfl (Nat.le_of_ble_eq_true rfl) (by omega) (by omega) rfl (fun E S9 hx => hx.elim) (fun v S9 hq => ?_)
  obtain ⟨rfl, rfl⟩ := hq
  refine GA.istore dL_retyped_58 (by decide) ?_
  obtain ⟨x10, hx11, H⟩ := gv_e H
  refine GV.iinc hx11 dL_retyped_60 rfl (by decide) ?_
  refine GA.goto (tgt := 22) dL_retyped_63 (by decide) ?_
  refine GA.locals [(0, .ref (L 468)), (1, .int (J a1)), (3, .int (J x10))] ⟨rfl, rfl, rfl, trivial⟩ ?_
  exact ih_L_retyped_22 _ _ (a1) (x10) _ _ H _ _ (by omega)
theorem g_L_retyped {l : Launch} {Z : XZ} {L : Nat → Nat} : ∀ n, P_L_retyped_0 l Z L n ∧ P_L_retyped_22 l Z L n ∧ P_L_retyped_43 l Z L n
  | 0 => ⟨fun _ _ _ _ H => no_e H, fun _ _ _ _ _ _ H => no_e H, fun _ _ _ _ _ _ _ H => no_e H⟩
  | n + 1 => have ⟨h0, h1, h2⟩ := g_L_retyped (l := l) (Z := Z) (L := L) n
    ⟨t_L_retyped_0 n h0 h1 h2, t_L_retyped_22 n h0 h1 h2, t_L_retyped_43 n h0 h1 h2⟩
theorem m_L_retyped {l : Launch} {Z : XZ} {L : Nat → Nat} {n d : Nat} {S : GS} {x : Int} {S1 : GS} (H : f_L_retyped Z.1.2.1 (fun k => (Z.1.2.2 k).toInt) n d 0 S [] = some (x, S1)) : GM l Z L yL_retyped cL_retyped 6 (some .boolean) [] d 0 0 [.ref (L 468)] S (fun v S' => v = some (.int (J x)) ∧ S1 = S') (fun _ _ => False) := GM.of (by decide) (Nat.le_of_ble_eq_true rfl) ((g_L_retyped n).1 _ _ _ _ H 0 0 (by omega))
