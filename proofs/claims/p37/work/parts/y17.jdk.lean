theorem dJ0_length_8abf5_0 : decode cJ0_length_8abf5 0 = .ok (.aload_n 0, 1) := by decide +kernel
theorem dJ0_length_8abf5_1 : decode cJ0_length_8abf5 1 = .ok (.getfield 9, 3) := by decide +kernel
theorem dJ0_length_8abf5_4 : decode cJ0_length_8abf5 4 = .ok (.arraylength, 1) := by decide +kernel
theorem dJ0_length_8abf5_5 : decode cJ0_length_8abf5 5 = .ok (.aload_n 0, 1) := by decide +kernel
theorem dJ0_length_8abf5_6 : decode cJ0_length_8abf5 6 = .ok (.invokevirtual 335, 3) := by decide +kernel
theorem dJ0_length_8abf5_9 : decode cJ0_length_8abf5 9 = .ok (.ishr, 1) := by decide +kernel
theorem dJ0_length_8abf5_10 : decode cJ0_length_8abf5 10 = .ok (.ireturn, 1) := by decide +kernel
theorem dJ0_charAt_5068e_0 : decode cJ0_charAt_5068e 0 = .ok (.aload_n 0, 1) := by decide +kernel
theorem dJ0_charAt_5068e_1 : decode cJ0_charAt_5068e 1 = .ok (.invokevirtual 492, 3) := by decide +kernel
theorem dJ0_charAt_5068e_4 : decode cJ0_charAt_5068e 4 = .ok (.ifCond .eq 12, 3) := by decide +kernel
theorem dJ0_charAt_5068e_7 : decode cJ0_charAt_5068e 7 = .ok (.aload_n 0, 1) := by decide +kernel
theorem dJ0_charAt_5068e_8 : decode cJ0_charAt_5068e 8 = .ok (.getfield 9, 3) := by decide +kernel
theorem dJ0_charAt_5068e_11 : decode cJ0_charAt_5068e 11 = .ok (.iload_n 1, 1) := by decide +kernel
theorem dJ0_charAt_5068e_12 : decode cJ0_charAt_5068e 12 = .ok (.invokestatic 495, 3) := by decide +kernel
theorem dJ0_charAt_5068e_15 : decode cJ0_charAt_5068e 15 = .ok (.ireturn, 1) := by decide +kernel
theorem dJ0_charAt_5068e_16 : decode cJ0_charAt_5068e 16 = .ok (.aload_n 0, 1) := by decide +kernel
theorem dJ0_charAt_5068e_17 : decode cJ0_charAt_5068e 17 = .ok (.getfield 9, 3) := by decide +kernel
theorem dJ0_charAt_5068e_20 : decode cJ0_charAt_5068e 20 = .ok (.iload_n 1, 1) := by decide +kernel
theorem dJ0_charAt_5068e_21 : decode cJ0_charAt_5068e 21 = .ok (.invokestatic 498, 3) := by decide +kernel
theorem dJ0_charAt_5068e_24 : decode cJ0_charAt_5068e 24 = .ok (.ireturn, 1) := by decide +kernel
theorem dJ0_coder_7d493_0 : decode cJ0_coder_7d493 0 = .ok (.getstatic 38, 3) := by decide +kernel
theorem dJ0_coder_7d493_3 : decode cJ0_coder_7d493 3 = .ok (.ifCond .eq 10, 3) := by decide +kernel
theorem dJ0_coder_7d493_6 : decode cJ0_coder_7d493 6 = .ok (.aload_n 0, 1) := by decide +kernel
theorem dJ0_coder_7d493_7 : decode cJ0_coder_7d493 7 = .ok (.getfield 15, 3) := by decide +kernel
theorem dJ0_coder_7d493_10 : decode cJ0_coder_7d493 10 = .ok (.goto 4, 3) := by decide +kernel
theorem dJ0_coder_7d493_13 : decode cJ0_coder_7d493 13 = .ok (.iconst 1, 1) := by decide +kernel
theorem dJ0_coder_7d493_14 : decode cJ0_coder_7d493 14 = .ok (.ireturn, 1) := by decide +kernel
theorem dJ0_isLatin1_aae02_0 : decode cJ0_isLatin1_aae02 0 = .ok (.getstatic 38, 3) := by decide +kernel
theorem dJ0_isLatin1_aae02_3 : decode cJ0_isLatin1_aae02 3 = .ok (.ifCond .eq 14, 3) := by decide +kernel
theorem dJ0_isLatin1_aae02_6 : decode cJ0_isLatin1_aae02 6 = .ok (.aload_n 0, 1) := by decide +kernel
theorem dJ0_isLatin1_aae02_7 : decode cJ0_isLatin1_aae02 7 = .ok (.getfield 15, 3) := by decide +kernel
theorem dJ0_isLatin1_aae02_10 : decode cJ0_isLatin1_aae02 10 = .ok (.ifCond .ne 7, 3) := by decide +kernel
theorem dJ0_isLatin1_aae02_13 : decode cJ0_isLatin1_aae02 13 = .ok (.iconst 1, 1) := by decide +kernel
theorem dJ0_isLatin1_aae02_14 : decode cJ0_isLatin1_aae02 14 = .ok (.goto 4, 3) := by decide +kernel
theorem dJ0_isLatin1_aae02_17 : decode cJ0_isLatin1_aae02 17 = .ok (.iconst 0, 1) := by decide +kernel
theorem dJ0_isLatin1_aae02_18 : decode cJ0_isLatin1_aae02 18 = .ok (.ireturn, 1) := by decide +kernel
theorem dJ0_checkIndex_df160_0 : decode cJ0_checkIndex_df160 0 = .ok (.iload_n 0, 1) := by decide +kernel
theorem dJ0_checkIndex_df160_1 : decode cJ0_checkIndex_df160 1 = .ok (.iload_n 1, 1) := by decide +kernel
theorem dJ0_checkIndex_df160_2 : decode cJ0_checkIndex_df160 2 = .ok (.getstatic 1053, 3) := by decide +kernel
theorem dJ0_checkIndex_df160_5 : decode cJ0_checkIndex_df160 5 = .ok (.invokestatic 1059, 3) := by decide +kernel
theorem dJ0_checkIndex_df160_8 : decode cJ0_checkIndex_df160 8 = .ok (.pop, 1) := by decide +kernel
theorem dJ0_checkIndex_df160_9 : decode cJ0_checkIndex_df160 9 = .ok (.return_, 1) := by decide +kernel
theorem dJ1_charAt_3b067_0 : decode cJ1_charAt_3b067 0 = .ok (.iload_n 1, 1) := by decide +kernel
theorem dJ1_charAt_3b067_1 : decode cJ1_charAt_3b067 1 = .ok (.aload_n 0, 1) := by decide +kernel
theorem dJ1_charAt_3b067_2 : decode cJ1_charAt_3b067 2 = .ok (.arraylength, 1) := by decide +kernel
theorem dJ1_charAt_3b067_3 : decode cJ1_charAt_3b067 3 = .ok (.invokestatic 9, 3) := by decide +kernel
theorem dJ1_charAt_3b067_6 : decode cJ1_charAt_3b067 6 = .ok (.aload_n 0, 1) := by decide +kernel
theorem dJ1_charAt_3b067_7 : decode cJ1_charAt_3b067 7 = .ok (.iload_n 1, 1) := by decide +kernel
theorem dJ1_charAt_3b067_8 : decode cJ1_charAt_3b067 8 = .ok (.baload, 1) := by decide +kernel
theorem dJ1_charAt_3b067_9 : decode cJ1_charAt_3b067 9 = .ok (.sipush 255, 3) := by decide +kernel
theorem dJ1_charAt_3b067_12 : decode cJ1_charAt_3b067 12 = .ok (.iand, 1) := by decide +kernel
theorem dJ1_charAt_3b067_13 : decode cJ1_charAt_3b067 13 = .ok (.i2c, 1) := by decide +kernel
theorem dJ1_charAt_3b067_14 : decode cJ1_charAt_3b067 14 = .ok (.ireturn, 1) := by decide +kernel
theorem dJ3_checkIndex_8e157_0 : decode cJ3_checkIndex_8e157 0 = .ok (.iload_n 0, 1) := by decide +kernel
theorem dJ3_checkIndex_8e157_1 : decode cJ3_checkIndex_8e157 1 = .ok (.ifCond .lt 8, 3) := by decide +kernel
theorem dJ3_checkIndex_8e157_4 : decode cJ3_checkIndex_8e157 4 = .ok (.iload_n 0, 1) := by decide +kernel
theorem dJ3_checkIndex_8e157_5 : decode cJ3_checkIndex_8e157 5 = .ok (.iload_n 1, 1) := by decide +kernel
theorem dJ3_checkIndex_8e157_6 : decode cJ3_checkIndex_8e157 6 = .ok (.if_icmp .lt 10, 3) := by decide +kernel
theorem dJ3_checkIndex_8e157_9 : decode cJ3_checkIndex_8e157 9 = .ok (.aload_n 2, 1) := by decide +kernel
theorem dJ3_checkIndex_8e157_10 : decode cJ3_checkIndex_8e157 10 = .ok (.iload_n 0, 1) := by decide +kernel
theorem dJ3_checkIndex_8e157_11 : decode cJ3_checkIndex_8e157 11 = .ok (.iload_n 1, 1) := by decide +kernel
theorem dJ3_checkIndex_8e157_12 : decode cJ3_checkIndex_8e157 12 = .ok (.invokestatic 95, 3) := by decide +kernel
theorem dJ3_checkIndex_8e157_15 : decode cJ3_checkIndex_8e157 15 = .ok (.athrow, 1) := by decide +kernel
theorem dJ3_checkIndex_8e157_16 : decode cJ3_checkIndex_8e157 16 = .ok (.iload_n 0, 1) := by decide +kernel
theorem dJ3_checkIndex_8e157_17 : decode cJ3_checkIndex_8e157 17 = .ok (.ireturn, 1) := by decide +kernel
/-! String.length, String.charAt of the constants -/
theorem xlen_le : ∀ i, i < 54 → xlen.getD i 0 ≤ 200 := by decide +kernel
def xchOk (i j : Nat) : Bool := decide ((xbyt.getD i []).getD j 0 = J (xch i j)) && decide ((((xbyt.getD i []).getD j 0 &&& 255).toUInt32 % 65536).toInt32 = J (xch i j)) && decide (0 ≤ xch i j) && decide (xch i j < 128)
theorem xch_all : (List.range 54).all (fun i => (List.range (xlen.getD i 0)).all (fun j => xchOk i j)) = true := by decide +kernel
theorem xch_ok {i j : Nat} (hi : i < 54) (hj : j < xlen.getD i 0) : (xbyt.getD i []).getD j 0 = J (xch i j) ∧ (((xbyt.getD i []).getD j 0 &&& 255).toUInt32 % 65536).toInt32 = J (xch i j) ∧ 0 ≤ xch i j ∧ xch i j < 128 := by
  have h := List.all_eq_true.mp (List.all_eq_true.mp xch_all i (List.mem_range.mpr hi)) j (List.mem_range.mpr hj)
  unfold xchOk at h
  simp only [Bool.and_eq_true, decide_eq_true_eq] at h
  exact ⟨h.1.1.1, h.1.1.2, h.1.2, h.2⟩
section JD
variable {l : Launch} {Z : XZ} {d : Nat} {h : XH}
set_option maxHeartbeats 4000000 in
theorem k_coder {i : Nat} (hi : i < 54) : XMet l Z yJ0_coder_7d493 cJ0_coder_7d493 1 (some .byte) [] d 0 0 [.ref (Z.2.1 i)] h (fun v h' => v = some (.int 0) ∧ h' = h) (fun _ _ => False) := by
  refine XMet.of (by decide) (Nat.le_of_ble_eq_true rfl) ?_
  refine XA.getsC xfl_J0_38 dJ0_coder_7d493_0 ?_
  refine XA.if_eq (tgt := 13) dJ0_coder_7d493_3 (by decide) (fun c => absurd c (by decide)) (fun _ => ?_)
  refine XA.aload_n dJ0_coder_7d493_6 rfl ?_
  refine XA.strC hi xfl_J0_15 dJ0_coder_7d493_7 ?_
  refine XA.goto (tgt := 14) dJ0_coder_7d493_10 (by decide) ?_
  exact XA.zret rfl rfl dJ0_coder_7d493_14 (by omega) (by omega) ⟨rfl, rfl⟩
set_option maxHeartbeats 4000000 in
theorem k_isLatin1 {i : Nat} (hi : i < 54) : XMet l Z yJ0_isLatin1_aae02 cJ0_isLatin1_aae02 1 (some .boolean) [] d 0 0 [.ref (Z.2.1 i)] h (fun v h' => v = some (.int 1) ∧ h' = h) (fun _ _ => False) := by
  refine XMet.of (by decide) (Nat.le_of_ble_eq_true rfl) ?_
  refine XA.getsC xfl_J0_38 dJ0_isLatin1_aae02_0 ?_
  refine XA.if_eq (tgt := 17) dJ0_isLatin1_aae02_3 (by decide) (fun c => absurd c (by decide)) (fun _ => ?_)
  refine XA.aload_n dJ0_isLatin1_aae02_6 rfl ?_
  refine XA.strC hi xfl_J0_15 dJ0_isLatin1_aae02_7 ?_
  refine XA.if_ne (tgt := 17) dJ0_isLatin1_aae02_10 (by decide) (fun c => absurd rfl c) (fun _ => ?_)
  refine XA.iconst dJ0_isLatin1_aae02_13 rfl ?_
  refine XA.goto (tgt := 18) dJ0_isLatin1_aae02_14 (by decide) ?_
  exact XA.zret rfl rfl dJ0_isLatin1_aae02_18 (by omega) (by omega) ⟨rfl, rfl⟩
set_option maxHeartbeats 4000000 in
theorem k_length {i : Nat} (hi : i < 54) (hd : 1 ≤ d) : XMet l Z yJ0_length_8abf5 cJ0_length_8abf5 1 (some .int) [] d 0 0 [.ref (Z.2.1 i)] h (fun v h' => v = some (.int (J (xlen.getD i 0))) ∧ h' = h) (fun _ _ => False) := by
  refine XMet.of (by decide) (Nat.le_of_ble_eq_true rfl) ?_
  refine XA.aload_n dJ0_length_8abf5_0 rfl ?_
  refine XA.strV hi xfl_J0_9 dJ0_length_8abf5_1 ?_
  refine XA.strL hi rfl dJ0_length_8abf5_4 ?_
  refine XA.aload_n dJ0_length_8abf5_5 rfl ?_
  refine XA.callStr hi (k_coder (d := d - 1) hi) xs_J0_335 dJ0_length_8abf5_6 rfl (by omega) (by decide) rfl (Nat.le_of_ble_eq_true rfl) (by omega) (by omega) (fun E h' hx => hx.elim) (fun v h' hq => ?_)
  obtain ⟨rfl, rfl⟩ := hq
  refine XA.ishr dJ0_length_8abf5_9 ?_
  refine XA.iret rfl dJ0_length_8abf5_10 (by omega) (by omega) ⟨?_, rfl⟩
  have e : ∀ x : Int32, x >>> ((0 : Int32) &&& 31) = x := fun x => by
    rw [show ((0 : Int32) &&& 31) = 0 by decide]
    simp
  rw [e]
  exact congrArg (fun z => some (Value.int z)) Int32.ofInt_eq_ofNat.symm
set_option maxHeartbeats 4000000 in
theorem k_preIndex {a b : Int} {v : Value} (h1 : 0 ≤ a ∧ a < b) (hb : b < 2147483648) (hv : v = .null ∨ ∃ t : Nat, v = .ref t) : XMet l Z yJ3_checkIndex_8e157 cJ3_checkIndex_8e157 3 (some .int) [] d 0 0 [.int (J a), .int (J b), v] h (fun w h' => w = some (.int (J a)) ∧ h' = h) (fun _ _ => False) := by
  refine XMet.of (by decide) (by rcases hv with rfl | ⟨t, rfl⟩ <;> exact Nat.le_of_ble_eq_true rfl) ?_
  refine XA.iload_n dJ3_checkIndex_8e157_0 rfl ?_
  refine XJ.if_lt (tgt := 9) dJ3_checkIndex_8e157_1 (by decide) (by omega) (fun c => by omega) (fun _ => ?_)
  refine XA.iload_n dJ3_checkIndex_8e157_4 rfl ?_
  refine XA.iload_n dJ3_checkIndex_8e157_5 rfl ?_
  refine XJ.icmp_lt (tgt := 16) dJ3_checkIndex_8e157_6 (by decide) (by omega) (by omega) (fun _ => ?_) (fun c => by omega)
  refine XA.iload_n dJ3_checkIndex_8e157_16 rfl ?_
  exact XA.iret rfl dJ3_checkIndex_8e157_17 (by omega) (by omega) ⟨rfl, rfl⟩
set_option maxHeartbeats 4000000 in
theorem k_checkIndex {a b : Int} (h1 : 0 ≤ a ∧ a < b) (hb : b < 2147483648) (hd : 1 ≤ d) : XMet l Z yJ0_checkIndex_df160 cJ0_checkIndex_df160 2 none [] d 0 0 [.int (J a), .int (J b)] h (fun w h' => w = none ∧ h' = h) (fun _ _ => False) := by
  refine XMet.of (by decide) (Nat.le_of_ble_eq_true rfl) ?_
  refine XA.iload_n dJ0_checkIndex_df160_0 rfl ?_
  refine XA.iload_n dJ0_checkIndex_df160_1 rfl ?_
  refine XA.getsF xfl_J0_1053 dJ0_checkIndex_df160_2 (fun v hv => ?_)
  refine XA.callS (As := [.int (J a), .int (J b), v]) (st := []) (k_preIndex (d := d - 1) h1 hb hv) xs_J0_1059 dJ0_checkIndex_df160_5 rfl (by omega) (by decide) rfl (Nat.le_of_ble_eq_true rfl) (by omega) (by omega) (fun E h' hx => hx.elim) (fun v h' hq => ?_)
  obtain ⟨rfl, rfl⟩ := hq
  refine XA.pop dJ0_checkIndex_df160_8 rfl ?_
  exact XA.vret rfl dJ0_checkIndex_df160_9 (by omega) (by omega) ⟨rfl, rfl⟩
set_option maxHeartbeats 4000000 in
theorem k_charAt1 {i : Nat} (hi : i < 54) {a : Int} (h1 : 0 ≤ a ∧ a < (xlen.getD i 0 : Nat)) (hd : 2 ≤ d) : XMet l Z yJ1_charAt_3b067 cJ1_charAt_3b067 2 (some .char) [] d 0 0 [.ref (Z.2.2 i), .int (J a)] h (fun w h' => w = some (.int (J (xch i a.toNat))) ∧ h' = h) (fun _ _ => False) := by
  have hle := xlen_le i hi
  obtain ⟨e1, e2, e3, e4⟩ := xch_ok (j := a.toNat) hi (by omega)
  refine XMet.of (by decide) (Nat.le_of_ble_eq_true rfl) ?_
  refine XA.iload_n dJ1_charAt_3b067_0 rfl ?_
  refine XA.aload_n dJ1_charAt_3b067_1 rfl ?_
  refine XA.strL hi Int32.ofInt_eq_ofNat.symm dJ1_charAt_3b067_2 ?_
  refine XA.callS (As := [.int (J a), .int (J (xlen.getD i 0 : Nat))]) (st := []) (k_checkIndex (d := d - 1) h1 (by omega) (by omega)) xs_J1_9 dJ1_charAt_3b067_3 rfl (by omega) (by decide) rfl (Nat.le_of_ble_eq_true rfl) (by omega) (by omega) (fun E h' hx => hx.elim) (fun v h' hq => ?_)
  obtain ⟨rfl, rfl⟩ := hq
  refine XA.aload_n dJ1_charAt_3b067_6 rfl ?_
  refine XA.iload_n dJ1_charAt_3b067_7 rfl ?_
  refine XA.strB hi (J_in h1.1 (by omega) (by omega)) (by rw [J_nat h1.1 (by omega)]) dJ1_charAt_3b067_8 ?_
  refine XA.sipush dJ1_charAt_3b067_9 rfl ?_
  refine XA.iand dJ1_charAt_3b067_12 ?_
  refine XA.i2c dJ1_charAt_3b067_13 e2 ?_
  refine XA.zret rfl ?_ dJ1_charAt_3b067_14 (by omega) (by omega) ⟨rfl, rfl⟩
  have h9 := (pk_charN (q := (xch i a.toNat).toNat) (by omega)).1
  have e : J (xch i a.toNat) = nI (xch i a.toNat).toNat := by
    obtain ⟨n, hn⟩ := Int.eq_ofNat_of_zero_le e3
    rw [hn]
    exact Int32.ofInt_eq_ofNat
  rw [e]
  exact h9
set_option maxHeartbeats 4000000 in
theorem k_charAt {i : Nat} (hi : i < 54) {a : Int} (h1 : 0 ≤ a ∧ a < (xlen.getD i 0 : Nat)) (hd : 3 ≤ d) : XMet l Z yJ0_charAt_5068e cJ0_charAt_5068e 2 (some .char) [] d 0 0 [.ref (Z.2.1 i), .int (J a)] h (fun w h' => w = some (.int (J (xch i a.toNat))) ∧ h' = h) (fun _ _ => False) := by
  obtain ⟨e1, e2, e3, e4⟩ := xch_ok (j := a.toNat) hi (by omega)
  refine XMet.of (by decide) (Nat.le_of_ble_eq_true rfl) ?_
  refine XA.aload_n dJ0_charAt_5068e_0 rfl ?_
  refine XA.callStr hi (k_isLatin1 (d := d - 1) hi) xs_J0_492 dJ0_charAt_5068e_1 rfl (by omega) (by decide) rfl (Nat.le_of_ble_eq_true rfl) (by omega) (by omega) (fun E h' hx => hx.elim) (fun v h' hq => ?_)
  obtain ⟨rfl, rfl⟩ := hq
  refine XA.if_eq (tgt := 16) dJ0_charAt_5068e_4 (by decide) (fun c => absurd c (by decide)) (fun _ => ?_)
  refine XA.aload_n dJ0_charAt_5068e_7 rfl ?_
  refine XA.strV hi xfl_J0_9 dJ0_charAt_5068e_8 ?_
  refine XA.iload_n dJ0_charAt_5068e_11 rfl ?_
  refine XA.callS (As := [.ref (Z.2.2 i), .int (J a)]) (st := []) (k_charAt1 (d := d - 1) hi h1 (by omega)) xs_J0_495 dJ0_charAt_5068e_12 rfl (by omega) (by decide) rfl (Nat.le_of_ble_eq_true rfl) (by omega) (by omega) (fun E h' hx => hx.elim) (fun v h' hq => ?_)
  obtain ⟨rfl, rfl⟩ := hq
  refine XA.zret rfl ?_ dJ0_charAt_5068e_15 (by omega) (by omega) ⟨rfl, rfl⟩
  have h9 := (pk_charN (q := (xch i a.toNat).toNat) (by omega)).1
  have e : J (xch i a.toNat) = nI (xch i a.toNat).toNat := by
    obtain ⟨n, hn⟩ := Int.eq_ofNat_of_zero_le e3
    rw [hn]
    exact Int32.ofInt_eq_ofNat
  rw [e]
  exact h9
end JD
section JG
variable {l : Launch} {Z : XZ} {L : Nat → Nat} {y : MethodName} {cc : ByteArray} {nL : Nat} {ret : Option FieldType} {hh : List (Nat × Nat × Nat × Nat)} {d mc ms : Nat} {q : Option Value → GS → Prop} {qx : String → GS → Prop} {pc : Nat} {f : GL} {st rest : List Value} {S : GS} {nc ns : Nat}
theorem GA.strLen {index i : Nat} (hi : i < 54) (hsite : XSiteV y.cls index "java/lang/String" yJ0_length_8abf5 cJ0_length_8abf5 1 (some .int) 0) (hdg : decode cc pc = .ok (.invokevirtual index, 3)) (hd : 2 ≤ d) (hcat : (st.map fun v => v.category).sum ≤ 8) (hc9 : nc ≤ mc) (hs9 : ns ≤ ms) (k : GA l Z L y cc nL ret hh d mc ms q qx (pc + 3) f (.int (J (xlen.getD i 0 : Nat)) :: st) S nc ns) : GA l Z L y cc nL ret hh d mc ms q qx pc f (.ref (Z.2.1 i) :: st) S nc ns := by
  intro h lv hG hf
  refine XA.callStr hi (k_length (d := d - 1) hi (by omega)) hsite hdg rfl (by omega) (by omega) rfl hcat hc9 hs9 (fun E h' hx => hx.elim) (fun v h' hq => ?_)
  obtain ⟨rfl, rfl⟩ := hq
  exact k h' lv hG hf
theorem GA.strChar {index i : Nat} {a : Int} (hi : i < 54) (hsite : XSiteV y.cls index "java/lang/String" yJ0_charAt_5068e cJ0_charAt_5068e 2 (some .char) 1) (hdg : decode cc pc = .ok (.invokevirtual index, 3)) (ha : 0 ≤ a ∧ a < (xlen.getD i 0 : Nat)) (hd : 4 ≤ d) (hcat : (st.map fun v => v.category).sum ≤ 8) (hc9 : nc ≤ mc) (hs9 : ns ≤ ms) (k : GA l Z L y cc nL ret hh d mc ms q qx (pc + 3) f (.int (J (xch i a.toNat)) :: st) S nc ns) : GA l Z L y cc nL ret hh d mc ms q qx pc f (.int (J a) :: .ref (Z.2.1 i) :: st) S nc ns := by
  intro h lv hG hf
  refine XA.callStr hi (k_charAt (d := d - 1) hi ha (by omega)) hsite hdg rfl (by omega) (by omega) rfl hcat hc9 hs9 (fun E h' hx => hx.elim) (fun v h' hq => ?_)
  obtain ⟨rfl, rfl⟩ := hq
  exact k h' lv hG hf
end JG
