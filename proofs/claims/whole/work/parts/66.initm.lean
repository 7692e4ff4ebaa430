set_option maxHeartbeats 16000000 in
set_option maxRecDepth 100000 in
/-- the reference made -/
theorem n_X12 {l : Launch} {Z : XZ} {n d b : Nat} {h : XH} {L : Nat → Nat} {S : GS} {x : Int} {S1 : GS} (hG : Gh L S h) (hR : ∀ c k, S.2.2 c k < 495) (hbL : ∀ c, c < 495 → L c ≠ b) (hb : h b = some (xO 11 [.int 0, .int 0, .int 0, .null, .null, .int 0, .null, .int 0, .null, .int 0, .null, .null, .null, .int 0, .null, .int 0, .int 0, .null, .null, .null, .int 0, .null, .int 0, .null, .null, .null, .null, .null, .null, .int 0, .int 0, .int 0, .int 0, .null, .null, .null, .int 0, .null, .int 0, .null, .null, .null, .null, .null, .int 0, .int 0, .int 0, .null, .null, .null, .null, .null, .null, .null, .int 0, .null, .null, .int 0, .null, .null, .null, .null, .int 0, .int 0, .int 0, .int 0, .int 0, .null, .null, .null, .null, .null, .null, .null, .null, .int 0, .int 0, .null, .null, .int 0, .null, .int 0, .null, .int 0, .null, .null])) (H : f_X12_init n d 1201 (gz S) [] = some (x, S1)) : XMet l Z yX12_init cX12_init 3 none [] d 54 896262 [.ref b] h (fun v h' => v = none ∧ ∃ L1, Gh L1 S1 h' ∧ (∀ c, c < 495 → L1 c = L c) ∧ L1 500 = b ∧ L1 700 = 1 ∧ L1 701 = 0) (fun _ _ => False) := by
  refine XMet.of (by decide) (Nat.le_of_ble_eq_true rfl) ?_
  have hC := cn_start hb
  refine XA.aload_n dX12_init_0 rfl ?_
  refine XA.objInit ⟨xs_X12_81, xobj.1, xobj.2⟩ dX12_init_1 (Nat.le_of_ble_eq_true rfl) ?_
  refine XA.aload_n dX12_init_4 rfl ?_
  refine XA.ldc (v := J ((295728 : Nat) : Int)) xc_X12_87 dX12_init_5 ?_
  refine XN.newI (N := 295728) hC xac_int dX12_init_7 (by decide) (by decide) (Nat.le_of_ble_eq_true rfl) (Nat.le_of_ble_eq_true rfl) (Nat.le_of_ble_eq_true rfl) (fun v1 h9 hC => ?_)
  refine XN.put hC (xp_X12_7 _) dX12_init_9 (Nat.le_of_ble_eq_true rfl) (fun h9 hC => ?_)
  have hC : Cn h h9 b (xO 11 [.int 0, .int 0, .int 0, .ref v1, .null, .int 0, .null, .int 0, .null, .int 0, .null, .null, .null, .int 0, .null, .int 0, .int 0, .null, .null, .null, .int 0, .null, .int 0, .null, .null, .null, .null, .null, .null, .int 0, .int 0, .int 0, .int 0, .null, .null, .null, .int 0, .null, .int 0, .null, .null, .null, .null, .null, .int 0, .int 0, .int 0, .null, .null, .null, .null, .null, .null, .null, .int 0, .null, .null, .int 0, .null, .null, .null, .null, .int 0, .int 0, .int 0, .int 0, .int 0, .null, .null, .null, .null, .null, .null, .null, .null, .int 0, .int 0, .null, .null, .int 0, .null, .int 0, .null, .int 0, .null, .null]) _ := hC
  refine XA.aload_n dX12_init_12 rfl ?_
  refine XA.bipush (v := J ((48 : Nat) : Int)) dX12_init_13 (by decide) ?_
  refine XN.newI (N := 48) hC xac_int dX12_init_15 (by decide) (by decide) (Nat.le_of_ble_eq_true rfl) (Nat.le_of_ble_eq_true rfl) (Nat.le_of_ble_eq_true rfl) (fun v2 h9 hC => ?_)
  refine XN.put hC (xp_X12_26 _) dX12_init_17 (Nat.le_of_ble_eq_true rfl) (fun h9 hC => ?_)
  have hC : Cn h h9 b (xO 11 [.int 0, .int 0, .int 0, .ref v1, .ref v2, .int 0, .null, .int 0, .null, .int 0, .null, .null, .null, .int 0, .null, .int 0, .int 0, .null, .null, .null, .int 0, .null, .int 0, .null, .null, .null, .null, .null, .null, .int 0, .int 0, .int 0, .int 0, .null, .null, .null, .int 0, .null, .int 0, .null, .null, .null, .null, .null, .int 0, .int 0, .int 0, .null, .null, .null, .null, .null, .null, .null, .int 0, .null, .null, .int 0, .null, .null, .null, .null, .int 0, .int 0, .int 0, .int 0, .int 0, .null, .null, .null, .null, .null, .null, .null, .null, .int 0, .int 0, .null, .null, .int 0, .null, .int 0, .null, .int 0, .null, .null]) _ := hC
  refine XA.aload_n dX12_init_20 rfl ?_
  refine XA.sipush (v := J ((400 : Nat) : Int)) dX12_init_21 (by decide) ?_
  refine XN.newI (N := 400) hC xac_int dX12_init_24 (by decide) (by decide) (Nat.le_of_ble_eq_true rfl) (Nat.le_of_ble_eq_true rfl) (Nat.le_of_ble_eq_true rfl) (fun v3 h9 hC => ?_)
  refine XN.put hC (xp_X12_88 _) dX12_init_26 (Nat.le_of_ble_eq_true rfl) (fun h9 hC => ?_)
  have hC : Cn h h9 b (xO 11 [.int 0, .int 0, .int 0, .ref v1, .ref v2, .int 0, .ref v3, .int 0, .null, .int 0, .null, .null, .null, .int 0, .null, .int 0, .int 0, .null, .null, .null, .int 0, .null, .int 0, .null, .null, .null, .null, .null, .null, .int 0, .int 0, .int 0, .int 0, .null, .null, .null, .int 0, .null, .int 0, .null, .null, .null, .null, .null, .int 0, .int 0, .int 0, .null, .null, .null, .null, .null, .null, .null, .int 0, .null, .null, .int 0, .null, .null, .null, .null, .int 0, .int 0, .int 0, .int 0, .int 0, .null, .null, .null, .null, .null, .null, .null, .null, .int 0, .int 0, .null, .null, .int 0, .null, .int 0, .null, .int 0, .null, .null]) _ := hC
  refine XA.aload_n dX12_init_29 rfl ?_
  refine XA.ldc (v := J ((40000 : Nat) : Int)) xc_X12_91 dX12_init_30 ?_
  refine XN.newI (N := 40000) hC xac_int dX12_init_32 (by decide) (by decide) (Nat.le_of_ble_eq_true rfl) (Nat.le_of_ble_eq_true rfl) (Nat.le_of_ble_eq_true rfl) (fun v4 h9 hC => ?_)
  refine XN.put hC (xp_X12_92 _) dX12_init_34 (Nat.le_of_ble_eq_true rfl) (fun h9 hC => ?_)
  have hC : Cn h h9 b (xO 11 [.int 0, .int 0, .int 0, .ref v1, .ref v2, .int 0, .ref v3, .int 0, .ref v4, .int 0, .null, .null, .null, .int 0, .null, .int 0, .int 0, .null, .null, .null, .int 0, .null, .int 0, .null, .null, .null, .null, .null, .null, .int 0, .int 0, .int 0, .int 0, .null, .null, .null, .int 0, .null, .int 0, .null, .null, .null, .null, .null, .int 0, .int 0, .int 0, .null, .null, .null, .null, .null, .null, .null, .int 0, .null, .null, .int 0, .null, .null, .null, .null, .int 0, .int 0, .int 0, .int 0, .int 0, .null, .null, .null, .null, .null, .null, .null, .null, .int 0, .int 0, .null, .null, .int 0, .null, .int 0, .null, .int 0, .null, .null]) _ := hC
  refine XA.aload_n dX12_init_37 rfl ?_
  refine XA.sipush (v := J ((128 : Nat) : Int)) dX12_init_38 (by decide) ?_
  refine XN.newI (N := 128) hC xac_int dX12_init_41 (by decide) (by decide) (Nat.le_of_ble_eq_true rfl) (Nat.le_of_ble_eq_true rfl) (Nat.le_of_ble_eq_true rfl) (fun v5 h9 hC => ?_)
  refine XN.put hC (xp_X12_43 _) dX12_init_43 (Nat.le_of_ble_eq_true rfl) (fun h9 hC => ?_)
  have hC : Cn h h9 b (xO 11 [.int 0, .int 0, .int 0, .ref v1, .ref v2, .int 0, .ref v3, .int 0, .ref v4, .int 0, .ref v5, .null, .null, .int 0, .null, .int 0, .int 0, .null, .null, .null, .int 0, .null, .int 0, .null, .null, .null, .null, .null, .null, .int 0, .int 0, .int 0, .int 0, .null, .null, .null, .int 0, .null, .int 0, .null, .null, .null, .null, .null, .int 0, .int 0, .int 0, .null, .null, .null, .null, .null, .null, .null, .int 0, .null, .null, .int 0, .null, .null, .null, .null, .int 0, .int 0, .int 0, .int 0, .int 0, .null, .null, .null, .null, .null, .null, .null, .null, .int 0, .int 0, .null, .null, .int 0, .null, .int 0, .null, .int 0, .null, .null]) _ := hC
  refine XA.aload_n dX12_init_46 rfl ?_
  refine XA.sipush (v := J ((128 : Nat) : Int)) dX12_init_47 (by decide) ?_
  refine XN.newI (N := 128) hC xac_int dX12_init_50 (by decide) (by decide) (Nat.le_of_ble_eq_true rfl) (Nat.le_of_ble_eq_true rfl) (Nat.le_of_ble_eq_true rfl) (fun v6 h9 hC => ?_)
  refine XN.put hC (xp_X12_46 _) dX12_init_52 (Nat.le_of_ble_eq_true rfl) (fun h9 hC => ?_)
  have hC : Cn h h9 b (xO 11 [.int 0, .int 0, .int 0, .ref v1, .ref v2, .int 0, .ref v3, .int 0, .ref v4, .int 0, .ref v5, .ref v6, .null, .int 0, .null, .int 0, .int 0, .null, .null, .null, .int 0, .null, .int 0, .null, .null, .null, .null, .null, .null, .int 0, .int 0, .int 0, .int 0, .null, .null, .null, .int 0, .null, .int 0, .null, .null, .null, .null, .null, .int 0, .int 0, .int 0, .null, .null, .null, .null, .null, .null, .null, .int 0, .null, .null, .int 0, .null, .null, .null, .null, .int 0, .int 0, .int 0, .int 0, .int 0, .null, .null, .null, .null, .null, .null, .null, .null, .int 0, .int 0, .null, .null, .int 0, .null, .int 0, .null, .int 0, .null, .null]) _ := hC
  refine XA.aload_n dX12_init_55 rfl ?_
  refine XA.sipush (v := J ((1000 : Nat) : Int)) dX12_init_56 (by decide) ?_
  refine XN.newI (N := 1000) hC xac_int dX12_init_59 (by decide) (by decide) (Nat.le_of_ble_eq_true rfl) (Nat.le_of_ble_eq_true rfl) (Nat.le_of_ble_eq_true rfl) (fun v7 h9 hC => ?_)
  refine XN.put hC (xp_X12_69 _) dX12_init_61 (Nat.le_of_ble_eq_true rfl) (fun h9 hC => ?_)
  have hC : Cn h h9 b (xO 11 [.int 0, .int 0, .int 0, .ref v1, .ref v2, .int 0, .ref v3, .int 0, .ref v4, .int 0, .ref v5, .ref v6, .ref v7, .int 0, .null, .int 0, .int 0, .null, .null, .null, .int 0, .null, .int 0, .null, .null, .null, .null, .null, .null, .int 0, .int 0, .int 0, .int 0, .null, .null, .null, .int 0, .null, .int 0, .null, .null, .null, .null, .null, .int 0, .int 0, .int 0, .null, .null, .null, .null, .null, .null, .null, .int 0, .null, .null, .int 0, .null, .null, .null, .null, .int 0, .int 0, .int 0, .int 0, .int 0, .null, .null, .null, .null, .null, .null, .null, .null, .int 0, .int 0, .null, .null, .int 0, .null, .int 0, .null, .int 0, .null, .null]) _ := hC
  refine XA.aload_n dX12_init_64 rfl ?_
  refine XA.sipush (v := J ((1000 : Nat) : Int)) dX12_init_65 (by decide) ?_
  refine XN.newI (N := 1000) hC xac_int dX12_init_68 (by decide) (by decide) (Nat.le_of_ble_eq_true rfl) (Nat.le_of_ble_eq_true rfl) (Nat.le_of_ble_eq_true rfl) (fun v8 h9 hC => ?_)
  refine XN.put hC (xp_X12_95 _) dX12_init_70 (Nat.le_of_ble_eq_true rfl) (fun h9 hC => ?_)
  have hC : Cn h h9 b (xO 11 [.int 0, .int 0, .int 0, .ref v1, .ref v2, .int 0, .ref v3, .int 0, .ref v4, .int 0, .ref v5, .ref v6, .ref v7, .int 0, .ref v8, .int 0, .int 0, .null, .null, .null, .int 0, .null, .int 0, .null, .null, .null, .null, .null, .null, .int 0, .int 0, .int 0, .int 0, .null, .null, .null, .int 0, .null, .int 0, .null, .null, .null, .null, .null, .int 0, .int 0, .int 0, .null, .null, .null, .null, .null, .null, .null, .int 0, .null, .null, .int 0, .null, .null, .null, .null, .int 0, .int 0, .int 0, .int 0, .int 0, .null, .null, .null, .null, .null, .null, .null, .null, .int 0, .int 0, .null, .null, .int 0, .null, .int 0, .null, .int 0, .null, .null]) _ := hC
  refine XA.aload_n dX12_init_73 rfl ?_
  refine XA.bipush (v := J ((81 : Nat) : Int)) dX12_init_74 (by decide) ?_
  refine XN.newL (N := 81) hC xac_long dX12_init_76 (by decide) (by decide) (Nat.le_of_ble_eq_true rfl) (Nat.le_of_ble_eq_true rfl) (Nat.le_of_ble_eq_true rfl) (fun v9 h9 hC => ?_)
  rw [xlp_0 gl_standard] at hC
  refine XA.dup dX12_init_78 rfl ?_
  refine XA.iconst (v := J ((0 : Nat) : Int)) dX12_init_79 (by decide) ?_
  refine XA.ldc2 (v := 8872775580599546658) xc_X12_98 dX12_init_80 ?_
  refine XN.last (g := gl_standard) (i := 0) hC dX12_init_83 (by decide) (by decide) (fun h9 hC => ?_)
  refine XA.dup dX12_init_84 rfl ?_
  refine XA.iconst (v := J ((1 : Nat) : Int)) dX12_init_85 (by decide) ?_
  refine XA.ldc2 (v := 4213999754226072354) xc_X12_100 dX12_init_86 ?_
  refine XN.last (g := gl_standard) (i := 1) hC dX12_init_89 (by decide) (by decide) (fun h9 hC => ?_)
  refine XA.dup dX12_init_90 rfl ?_
  refine XA.iconst (v := J ((2 : Nat) : Int)) dX12_init_91 (by decide) ?_
  refine XA.ldc2 (v := 8317987317909969787) xc_X12_102 dX12_init_92 ?_
  refine XN.last (g := gl_standard) (i := 2) hC dX12_init_95 (by decide) (by decide) (fun h9 hC => ?_)
  refine XA.dup dX12_init_96 rfl ?_
  refine XA.iconst (v := J ((3 : Nat) : Int)) dX12_init_97 (by decide) ?_
  refine XA.ldc2 (v := 2480191942644873762) xc_X12_104 dX12_init_98 ?_
  refine XN.last (g := gl_standard) (i := 3) hC dX12_init_101 (by decide) (by decide) (fun h9 hC => ?_)
  refine XA.dup dX12_init_102 rfl ?_
  refine XA.iconst (v := J ((4 : Nat) : Int)) dX12_init_103 (by decide) ?_
  refine XA.ldc2 (v := 8390898198568402220) xc_X12_106 dX12_init_104 ?_
  refine XN.last (g := gl_standard) (i := 4) hC dX12_init_107 (by decide) (by decide) (fun h9 hC => ?_)
  refine XA.dup dX12_init_108 rfl ?_
  refine XA.iconst (v := J ((5 : Nat) : Int)) dX12_init_109 (by decide) ?_
  refine XA.ldc2 (v := 8872772316441092666) xc_X12_108 dX12_init_110 ?_
  refine XN.last (g := gl_standard) (i := 5) hC dX12_init_113 (by decide) (by decide) (fun h9 hC => ?_)
  refine XA.dup dX12_init_114 rfl ?_
  refine XA.bipush (v := J ((6 : Nat) : Int)) dX12_init_115 (by decide) ?_
  refine XA.ldc2 (v := 2480746103988560491) xc_X12_110 dX12_init_117 ?_
  refine XN.last (g := gl_standard) (i := 6) hC dX12_init_120 (by decide) (by decide) (fun h9 hC => ?_)
  refine XA.dup dX12_init_121 rfl ?_
  refine XA.bipush (v := J ((7 : Nat) : Int)) dX12_init_122 (by decide) ?_
  refine XA.ldc2 (v := 7312002060859941483) xc_X12_112 dX12_init_124 ?_
  refine XN.last (g := gl_standard) (i := 7) hC dX12_init_127 (by decide) (by decide) (fun h9 hC => ?_)
  refine XA.dup dX12_init_128 rfl ?_
  refine XA.bipush (v := J ((8 : Nat) : Int)) dX12_init_129 (by decide) ?_
  refine XA.ldc2 (v := 7597119719593419379) xc_X12_114 dX12_init_131 ?_
  refine XN.last (g := gl_standard) (i := 8) hC dX12_init_134 (by decide) (by decide) (fun h9 hC => ?_)
  refine XA.dup dX12_init_135 rfl ?_
  refine XA.bipush (v := J ((9 : Nat) : Int)) dX12_init_136 (by decide) ?_
  refine XA.ldc2 (v := 8029184908353829666) xc_X12_116 dX12_init_138 ?_
  refine XN.last (g := gl_standard) (i := 9) hC dX12_init_141 (by decide) (by decide) (fun h9 hC => ?_)
  refine XA.dup dX12_init_142 rfl ?_
  refine XA.bipush (v := J ((10 : Nat) : Int)) dX12_init_143 (by decide) ?_
  refine XA.ldc2 (v := 8243106990161816354) xc_X12_118 dX12_init_145 ?_
  refine XN.last (g := gl_standard) (i := 10) hC dX12_init_148 (by decide) (by decide) (fun h9 hC => ?_)
  refine XA.dup dX12_init_149 rfl ?_
  refine XA.bipush (v := J ((11 : Nat) : Int)) dX12_init_150 (by decide) ?_
  refine XA.ldc2 (v := 9019719541477437028) xc_X12_120 dX12_init_152 ?_
  refine XN.last (g := gl_standard) (i := 11) hC dX12_init_155 (by decide) (by decide) (fun h9 hC => ?_)
  refine XA.dup dX12_init_156 rfl ?_
  refine XA.bipush (v := J ((12 : Nat) : Int)) dX12_init_157 (by decide) ?_
  refine XA.ldc2 (v := 2466321620830462508) xc_X12_122 dX12_init_159 ?_
  refine XN.last (g := gl_standard) (i := 12) hC dX12_init_162 (by decide) (by decide) (fun h9 hC => ?_)
  refine XA.dup dX12_init_163 rfl ?_
  refine XA.bipush (v := J ((13 : Nat) : Int)) dX12_init_164 (by decide) ?_
  refine XA.ldc2 (v := 2479641048820949562) xc_X12_124 dX12_init_166 ?_
  refine XN.last (g := gl_standard) (i := 13) hC dX12_init_169 (by decide) (by decide) (fun h9 hC => ?_)
  refine XA.dup dX12_init_170 rfl ?_
  refine XA.bipush (v := J ((14 : Nat) : Int)) dX12_init_171 (by decide) ?_
  refine XA.ldc2 (v := 8872779995704080930) xc_X12_126 dX12_init_173 ?_
  refine XN.last (g := gl_standard) (i := 14) hC dX12_init_176 (by decide) (by decide) (fun h9 hC => ?_)
  refine XA.dup dX12_init_177 rfl ?_
  refine XA.bipush (v := J ((15 : Nat) : Int)) dX12_init_178 (by decide) ?_
  refine XA.ldc2 (v := 7719870688659319842) xc_X12_128 dX12_init_180 ?_
  refine XN.last (g := gl_standard) (i := 15) hC dX12_init_183 (by decide) (by decide) (fun h9 hC => ?_)
  refine XA.dup dX12_init_184 rfl ?_
  refine XA.bipush (v := J ((16 : Nat) : Int)) dX12_init_185 (by decide) ?_
  refine XA.ldc2 (v := 7810756277241526907) xc_X12_130 dX12_init_187 ?_
  refine XN.last (g := gl_standard) (i := 16) hC dX12_init_190 (by decide) (by decide) (fun h9 hC => ?_)
  refine XA.dup dX12_init_191 rfl ?_
  refine XA.bipush (v := J ((17 : Nat) : Int)) dX12_init_192 (by decide) ?_
  refine XA.ldc2 (v := 2480191942644873762) xc_X12_104 dX12_init_194 ?_
  refine XN.last (g := gl_standard) (i := 17) hC dX12_init_197 (by decide) (by decide) (fun h9 hC => ?_)
  refine XA.dup dX12_init_198 rfl ?_
  refine XA.bipush (v := J ((18 : Nat) : Int)) dX12_init_199 (by decide) ?_
  refine XA.ldc2 (v := 7959388185823421053) xc_X12_132 dX12_init_201 ?_
  refine XN.last (g := gl_standard) (i := 18) hC dX12_init_204 (by decide) (by decide) (fun h9 hC => ?_)
  refine XA.dup dX12_init_205 rfl ?_
  refine XA.bipush (v := J ((19 : Nat) : Int)) dX12_init_206 (by decide) ?_
  refine XA.ldc2 (v := 3180224612322779706) xc_X12_134 dX12_init_208 ?_
  refine XN.last (g := gl_standard) (i := 19) hC dX12_init_211 (by decide) (by decide) (fun h9 hC => ?_)
  refine XA.dup dX12_init_212 rfl ?_
  refine XA.bipush (v := J ((20 : Nat) : Int)) dX12_init_213 (by decide) ?_
  refine XA.ldc2 (v := 8872772316441092666) xc_X12_108 dX12_init_215 ?_
  refine XN.last (g := gl_standard) (i := 20) hC dX12_init_218 (by decide) (by decide) (fun h9 hC => ?_)
  refine XA.dup dX12_init_219 rfl ?_
  refine XA.bipush (v := J ((21 : Nat) : Int)) dX12_init_220 (by decide) ?_
  refine XA.ldc2 (v := 2481049557390422562) xc_X12_136 dX12_init_222 ?_
  refine XN.last (g := gl_standard) (i := 21) hC dX12_init_225 (by decide) (by decide) (fun h9 hC => ?_)
  refine XA.dup dX12_init_226 rfl ?_
  refine XA.bipush (v := J ((22 : Nat) : Int)) dX12_init_227 (by decide) ?_
  refine XA.ldc2 (v := 9019622032784978548) xc_X12_138 dX12_init_229 ?_
  refine XN.last (g := gl_standard) (i := 22) hC dX12_init_232 (by decide) (by decide) (fun h9 hC => ?_)
  refine XA.dup dX12_init_233 rfl ?_
  refine XA.bipush (v := J ((23 : Nat) : Int)) dX12_init_234 (by decide) ?_
  refine XA.ldc2 (v := 7310314310511305323) xc_X12_140 dX12_init_236 ?_
  refine XN.last (g := gl_standard) (i := 23) hC dX12_init_239 (by decide) (by decide) (fun h9 hC => ?_)
  refine XA.dup dX12_init_240 rfl ?_
  refine XA.bipush (v := J ((24 : Nat) : Int)) dX12_init_241 (by decide) ?_
  refine XA.ldc2 (v := 7597119719587606133) xc_X12_142 dX12_init_243 ?_
  refine XN.last (g := gl_standard) (i := 24) hC dX12_init_246 (by decide) (by decide) (fun h9 hC => ?_)
  refine XA.dup dX12_init_247 rfl ?_
  refine XA.bipush (v := J ((25 : Nat) : Int)) dX12_init_248 (by decide) ?_
  refine XA.ldc2 (v := 7881973838731095074) xc_X12_144 dX12_init_250 ?_
  refine XN.last (g := gl_standard) (i := 25) hC dX12_init_253 (by decide) (by decide) (fun h9 hC => ?_)
  refine XA.dup dX12_init_254 rfl ?_
  refine XA.bipush (v := J ((26 : Nat) : Int)) dX12_init_255 (by decide) ?_
  refine XA.ldc2 (v := 7813585268873851938) xc_X12_146 dX12_init_257 ?_
  refine XN.last (g := gl_standard) (i := 26) hC dX12_init_260 (by decide) (by decide) (fun h9 hC => ?_)
  refine XA.dup dX12_init_261 rfl ?_
  refine XA.bipush (v := J ((27 : Nat) : Int)) dX12_init_262 (by decide) ?_
  refine XA.ldc2 (v := 4213999721060918306) xc_X12_148 dX12_init_264 ?_
  refine XN.last (g := gl_standard) (i := 27) hC dX12_init_267 (by decide) (by decide) (fun h9 hC => ?_)
  refine XA.dup dX12_init_268 rfl ?_
  refine XA.bipush (v := J ((28 : Nat) : Int)) dX12_init_269 (by decide) ?_
  refine XA.ldc2 (v := 4189032054033376626) xc_X12_150 dX12_init_271 ?_
  refine XN.last (g := gl_standard) (i := 28) hC dX12_init_274 (by decide) (by decide) (fun h9 hC => ?_)
  refine XA.dup dX12_init_275 rfl ?_
  refine XA.bipush (v := J ((29 : Nat) : Int)) dX12_init_276 (by decide) ?_
  refine XA.ldc2 (v := 2485191095771030884) xc_X12_152 dX12_init_278 ?_
  refine XN.last (g := gl_standard) (i := 29) hC dX12_init_281 (by decide) (by decide) (fun h9 hC => ?_)
  refine XA.dup dX12_init_282 rfl ?_
  refine XA.bipush (v := J ((30 : Nat) : Int)) dX12_init_283 (by decide) ?_
  refine XA.ldc2 (v := 8296257764102728046) xc_X12_154 dX12_init_285 ?_
  refine XN.last (g := gl_standard) (i := 30) hC dX12_init_288 (by decide) (by decide) (fun h9 hC => ?_)
  refine XA.dup dX12_init_289 rfl ?_
  refine XA.bipush (v := J ((31 : Nat) : Int)) dX12_init_290 (by decide) ?_
  refine XA.ldc2 (v := 7215393472624162594) xc_X12_156 dX12_init_292 ?_
  refine XN.last (g := gl_standard) (i := 31) hC dX12_init_295 (by decide) (by decide) (fun h9 hC => ?_)
  refine XA.dup dX12_init_296 rfl ?_
  refine XA.bipush (v := J ((32 : Nat) : Int)) dX12_init_297 (by decide) ?_
  refine XA.ldc2 (v := 3180220235515786018) xc_X12_158 dX12_init_299 ?_
  refine XN.last (g := gl_standard) (i := 32) hC dX12_init_302 (by decide) (by decide) (fun h9 hC => ?_)
  refine XA.dup dX12_init_303 rfl ?_
  refine XA.bipush (v := J ((33 : Nat) : Int)) dX12_init_304 (by decide) ?_
  refine XA.ldc2 (v := 4213999721060918306) xc_X12_148 dX12_init_306 ?_
  refine XN.last (g := gl_standard) (i := 33) hC dX12_init_309 (by decide) (by decide) (fun h9 hC => ?_)
  refine XA.dup dX12_init_310 rfl ?_
  refine XA.bipush (v := J ((34 : Nat) : Int)) dX12_init_311 (by decide) ?_
  refine XA.ldc2 (v := 4189038582569378429) xc_X12_160 dX12_init_313 ?_
  refine XN.last (g := gl_standard) (i := 34) hC dX12_init_316 (by decide) (by decide) (fun h9 hC => ?_)
  refine XA.dup dX12_init_317 rfl ?_
  refine XA.bipush (v := J ((35 : Nat) : Int)) dX12_init_318 (by decide) ?_
  refine XA.ldc2 (v := 9019621998375564066) xc_X12_162 dX12_init_320 ?_
  refine XN.last (g := gl_standard) (i := 35) hC dX12_init_323 (by decide) (by decide) (fun h9 hC => ?_)
  refine XA.dup dX12_init_324 rfl ?_
  refine XA.bipush (v := J ((36 : Nat) : Int)) dX12_init_325 (by decide) ?_
  refine XA.ldc2 (v := 4213999751058039354) xc_X12_164 dX12_init_327 ?_
  refine XN.last (g := gl_standard) (i := 36) hC dX12_init_330 (by decide) (by decide) (fun h9 hC => ?_)
  refine XA.dup dX12_init_331 rfl ?_
  refine XA.bipush (v := J ((37 : Nat) : Int)) dX12_init_332 (by decide) ?_
  refine XA.ldc2 (v := 2480676890757721972) xc_X12_166 dX12_init_334 ?_
  refine XN.last (g := gl_standard) (i := 37) hC dX12_init_337 (by decide) (by decide) (fun h9 hC => ?_)
  refine XA.dup dX12_init_338 rfl ?_
  refine XA.bipush (v := J ((38 : Nat) : Int)) dX12_init_339 (by decide) ?_
  refine XA.ldc2 (v := 7522544591413345058) xc_X12_168 dX12_init_341 ?_
  refine XN.last (g := gl_standard) (i := 38) hC dX12_init_344 (by decide) (by decide) (fun h9 hC => ?_)
  refine XA.dup dX12_init_345 rfl ?_
  refine XA.bipush (v := J ((39 : Nat) : Int)) dX12_init_346 (by decide) ?_
  refine XA.ldc2 (v := 8243106990161818402) xc_X12_170 dX12_init_348 ?_
  refine XN.last (g := gl_standard) (i := 39) hC dX12_init_351 (by decide) (by decide) (fun h9 hC => ?_)
  refine XA.dup dX12_init_352 rfl ?_
  refine XA.bipush (v := J ((40 : Nat) : Int)) dX12_init_353 (by decide) ?_
  refine XA.ldc2 (v := 9019621990035975539) xc_X12_172 dX12_init_355 ?_
  refine XN.last (g := gl_standard) (i := 40) hC dX12_init_358 (by decide) (by decide) (fun h9 hC => ?_)
  refine XA.dup dX12_init_359 rfl ?_
  refine XA.bipush (v := J ((41 : Nat) : Int)) dX12_init_360 (by decide) ?_
  refine XA.ldc2 (v := 2466419133817120290) xc_X12_174 dX12_init_362 ?_
  refine XN.last (g := gl_standard) (i := 41) hC dX12_init_365 (by decide) (by decide) (fun h9 hC => ?_)
  refine XA.dup dX12_init_366 rfl ?_
  refine XA.bipush (v := J ((42 : Nat) : Int)) dX12_init_367 (by decide) ?_
  refine XA.ldc2 (v := 4189037195374109295) xc_X12_176 dX12_init_369 ?_
  refine XN.last (g := gl_standard) (i := 42) hC dX12_init_372 (by decide) (by decide) (fun h9 hC => ?_)
  refine XA.dup dX12_init_373 rfl ?_
  refine XA.bipush (v := J ((43 : Nat) : Int)) dX12_init_374 (by decide) ?_
  refine XA.ldc2 (v := 7956867829573821035) xc_X12_178 dX12_init_376 ?_
  refine XN.last (g := gl_standard) (i := 43) hC dX12_init_379 (by decide) (by decide) (fun h9 hC => ?_)
  refine XA.dup dX12_init_380 rfl ?_
  refine XA.bipush (v := J ((44 : Nat) : Int)) dX12_init_381 (by decide) ?_
  refine XA.ldc2 (v := 7597119719587607151) xc_X12_180 dX12_init_383 ?_
  refine XN.last (g := gl_standard) (i := 44) hC dX12_init_386 (by decide) (by decide) (fun h9 hC => ?_)
  refine XA.dup dX12_init_387 rfl ?_
  refine XA.bipush (v := J ((45 : Nat) : Int)) dX12_init_388 (by decide) ?_
  refine XA.ldc2 (v := 8584561468230429804) xc_X12_182 dX12_init_390 ?_
  refine XN.last (g := gl_standard) (i := 45) hC dX12_init_393 (by decide) (by decide) (fun h9 hC => ?_)
  refine XA.dup dX12_init_394 rfl ?_
  refine XA.bipush (v := J ((46 : Nat) : Int)) dX12_init_395 (by decide) ?_
  refine XA.ldc2 (v := 2466419133817120290) xc_X12_174 dX12_init_397 ?_
  refine XN.last (g := gl_standard) (i := 46) hC dX12_init_400 (by decide) (by decide) (fun h9 hC => ?_)
  refine XA.dup dX12_init_401 rfl ?_
  refine XA.bipush (v := J ((47 : Nat) : Int)) dX12_init_402 (by decide) ?_
  refine XA.ldc2 (v := 4189036095862481523) xc_X12_184 dX12_init_404 ?_
  refine XN.last (g := gl_standard) (i := 47) hC dX12_init_407 (by decide) (by decide) (fun h9 hC => ?_)
  refine XA.dup dX12_init_408 rfl ?_
  refine XA.bipush (v := J ((48 : Nat) : Int)) dX12_init_409 (by decide) ?_
  refine XA.ldc2 (v := 8029184908355904114) xc_X12_186 dX12_init_411 ?_
  refine XN.last (g := gl_standard) (i := 48) hC dX12_init_414 (by decide) (by decide) (fun h9 hC => ?_)
  refine XA.dup dX12_init_415 rfl ?_
  refine XA.bipush (v := J ((49 : Nat) : Int)) dX12_init_416 (by decide) ?_
  refine XA.ldc2 (v := 7306565078536561277) xc_X12_188 dX12_init_418 ?_
  refine XN.last (g := gl_standard) (i := 49) hC dX12_init_421 (by decide) (by decide) (fun h9 hC => ?_)
  refine XA.dup dX12_init_422 rfl ?_
  refine XA.bipush (v := J ((50 : Nat) : Int)) dX12_init_423 (by decide) ?_
  refine XA.ldc2 (v := 3180226806810819195) xc_X12_190 dX12_init_425 ?_
  refine XN.last (g := gl_standard) (i := 50) hC dX12_init_428 (by decide) (by decide) (fun h9 hC => ?_)
  refine XA.dup dX12_init_429 rfl ?_
  refine XA.bipush (v := J ((51 : Nat) : Int)) dX12_init_430 (by decide) ?_
  refine XA.ldc2 (v := 2482157833969869426) xc_X12_192 dX12_init_432 ?_
  refine XN.last (g := gl_standard) (i := 51) hC dX12_init_435 (by decide) (by decide) (fun h9 hC => ?_)
  refine XA.dup dX12_init_436 rfl ?_
  refine XA.bipush (v := J ((52 : Nat) : Int)) dX12_init_437 (by decide) ?_
  refine XA.ldc2 (v := 2485191095771690018) xc_X12_194 dX12_init_439 ?_
  refine XN.last (g := gl_standard) (i := 52) hC dX12_init_442 (by decide) (by decide) (fun h9 hC => ?_)
  refine XA.dup dX12_init_443 rfl ?_
  refine XA.bipush (v := J ((53 : Nat) : Int)) dX12_init_444 (by decide) ?_
  refine XA.ldc2 (v := 4213999751058039354) xc_X12_164 dX12_init_446 ?_
  refine XN.last (g := gl_standard) (i := 53) hC dX12_init_449 (by decide) (by decide) (fun h9 hC => ?_)
  refine XA.dup dX12_init_450 rfl ?_
  refine XA.bipush (v := J ((54 : Nat) : Int)) dX12_init_451 (by decide) ?_
  refine XA.ldc2 (v := 2482365740617986661) xc_X12_196 dX12_init_453 ?_
  refine XN.last (g := gl_standard) (i := 54) hC dX12_init_456 (by decide) (by decide) (fun h9 hC => ?_)
  refine XA.dup dX12_init_457 rfl ?_
  refine XA.bipush (v := J ((55 : Nat) : Int)) dX12_init_458 (by decide) ?_
  refine XA.ldc2 (v := 7359509041609664878) xc_X12_198 dX12_init_460 ?_
  refine XN.last (g := gl_standard) (i := 55) hC dX12_init_463 (by decide) (by decide) (fun h9 hC => ?_)
  refine XA.dup dX12_init_464 rfl ?_
  refine XA.bipush (v := J ((56 : Nat) : Int)) dX12_init_465 (by decide) ?_
  refine XA.ldc2 (v := 7215393472657062004) xc_X12_200 dX12_init_467 ?_
  refine XN.last (g := gl_standard) (i := 56) hC dX12_init_470 (by decide) (by decide) (fun h9 hC => ?_)
  refine XA.dup dX12_init_471 rfl ?_
  refine XA.bipush (v := J ((57 : Nat) : Int)) dX12_init_472 (by decide) ?_
  refine XA.ldc2 (v := 2485191095770770789) xc_X12_202 dX12_init_474 ?_
  refine XN.last (g := gl_standard) (i := 57) hC dX12_init_477 (by decide) (by decide) (fun h9 hC => ?_)
  refine XA.dup dX12_init_478 rfl ?_
  refine XA.bipush (v := J ((58 : Nat) : Int)) dX12_init_479 (by decide) ?_
  refine XA.ldc2 (v := 8296257764103185766) xc_X12_204 dX12_init_481 ?_
  refine XN.last (g := gl_standard) (i := 58) hC dX12_init_484 (by decide) (by decide) (fun h9 hC => ?_)
  refine XA.dup dX12_init_485 rfl ?_
  refine XA.bipush (v := J ((59 : Nat) : Int)) dX12_init_486 (by decide) ?_
  refine XA.ldc2 (v := 2466321598064196989) xc_X12_206 dX12_init_488 ?_
  refine XN.last (g := gl_standard) (i := 59) hC dX12_init_491 (by decide) (by decide) (fun h9 hC => ?_)
  refine XA.dup dX12_init_492 rfl ?_
  refine XA.bipush (v := J ((60 : Nat) : Int)) dX12_init_493 (by decide) ?_
  refine XA.ldc2 (v := 6736589143954045563) xc_X12_208 dX12_init_495 ?_
  refine XN.last (g := gl_standard) (i := 60) hC dX12_init_498 (by decide) (by decide) (fun h9 hC => ?_)
  refine XA.dup dX12_init_499 rfl ?_
  refine XA.bipush (v := J ((61 : Nat) : Int)) dX12_init_500 (by decide) ?_
  refine XA.ldc2 (v := 2481323331872242267) xc_X12_210 dX12_init_502 ?_
  refine XN.last (g := gl_standard) (i := 61) hC dX12_init_505 (by decide) (by decide) (fun h9 hC => ?_)
  refine XA.dup dX12_init_506 rfl ?_
  refine XA.bipush (v := J ((62 : Nat) : Int)) dX12_init_507 (by decide) ?_
  refine XA.ldc2 (v := 2481042990486351463) xc_X12_212 dX12_init_509 ?_
  refine XN.last (g := gl_standard) (i := 62) hC dX12_init_512 (by decide) (by decide) (fun h9 hC => ?_)
  refine XA.dup dX12_init_513 rfl ?_
  refine XA.bipush (v := J ((63 : Nat) : Int)) dX12_init_514 (by decide) ?_
  refine XA.ldc2 (v := 2462380979796669544) xc_X12_214 dX12_init_516 ?_
  refine XN.last (g := gl_standard) (i := 63) hC dX12_init_519 (by decide) (by decide) (fun h9 hC => ?_)
  refine XA.dup dX12_init_520 rfl ?_
  refine XA.bipush (v := J ((64 : Nat) : Int)) dX12_init_521 (by decide) ?_
  refine XA.ldc2 (v := 2462380954076668517) xc_X12_216 dX12_init_523 ?_
  refine XN.last (g := gl_standard) (i := 64) hC dX12_init_526 (by decide) (by decide) (fun h9 hC => ?_)
  refine XA.dup dX12_init_527 rfl ?_
  refine XA.bipush (v := J ((65 : Nat) : Int)) dX12_init_528 (by decide) ?_
  refine XA.ldc2 (v := 8224184396025264244) xc_X12_218 dX12_init_530 ?_
  refine XN.last (g := gl_standard) (i := 65) hC dX12_init_533 (by decide) (by decide) (fun h9 hC => ?_)
  refine XA.dup dX12_init_534 rfl ?_
  refine XA.bipush (v := J ((66 : Nat) : Int)) dX12_init_535 (by decide) ?_
  refine XA.ldc2 (v := 2462380971156513324) xc_X12_220 dX12_init_537 ?_
  refine XN.last (g := gl_standard) (i := 66) hC dX12_init_540 (by decide) (by decide) (fun h9 hC => ?_)
  refine XA.dup dX12_init_541 rfl ?_
  refine XA.bipush (v := J ((67 : Nat) : Int)) dX12_init_542 (by decide) ?_
  refine XA.ldc2 (v := 2480746103988560503) xc_X12_222 dX12_init_544 ?_
  refine XN.last (g := gl_standard) (i := 67) hC dX12_init_547 (by decide) (by decide) (fun h9 hC => ?_)
  refine XA.dup dX12_init_548 rfl ?_
  refine XA.bipush (v := J ((68 : Nat) : Int)) dX12_init_549 (by decide) ?_
  refine XA.ldc2 (v := 7525352683983437100) xc_X12_224 dX12_init_551 ?_
  refine XN.last (g := gl_standard) (i := 68) hC dX12_init_554 (by decide) (by decide) (fun h9 hC => ?_)
  refine XA.dup dX12_init_555 rfl ?_
  refine XA.bipush (v := J ((69 : Nat) : Int)) dX12_init_556 (by decide) ?_
  refine XA.ldc2 (v := 2480676604320312169) xc_X12_226 dX12_init_558 ?_
  refine XN.last (g := gl_standard) (i := 69) hC dX12_init_561 (by decide) (by decide) (fun h9 hC => ?_)
  refine XA.dup dX12_init_562 rfl ?_
  refine XA.bipush (v := J ((70 : Nat) : Int)) dX12_init_563 (by decide) ?_
  refine XA.ldc2 (v := 7954520474924179824) xc_X12_228 dX12_init_565 ?_
  refine XN.last (g := gl_standard) (i := 70) hC dX12_init_568 (by decide) (by decide) (fun h9 hC => ?_)
  refine XA.dup dX12_init_569 rfl ?_
  refine XA.bipush (v := J ((71 : Nat) : Int)) dX12_init_570 (by decide) ?_
  refine XA.ldc2 (v := 2462380958354531698) xc_X12_230 dX12_init_572 ?_
  refine XN.last (g := gl_standard) (i := 71) hC dX12_init_575 (by decide) (by decide) (fun h9 hC => ?_)
  refine XA.dup dX12_init_576 rfl ?_
  refine XA.bipush (v := J ((72 : Nat) : Int)) dX12_init_577 (by decide) ?_
  refine XA.ldc2 (v := 8296257764103185766) xc_X12_204 dX12_init_579 ?_
  refine XN.last (g := gl_standard) (i := 72) hC dX12_init_582 (by decide) (by decide) (fun h9 hC => ?_)
  refine XA.dup dX12_init_583 rfl ?_
  refine XA.bipush (v := J ((73 : Nat) : Int)) dX12_init_584 (by decide) ?_
  refine XA.ldc2 (v := 2466321623834000684) xc_X12_232 dX12_init_586 ?_
  refine XN.last (g := gl_standard) (i := 73) hC dX12_init_589 (by decide) (by decide) (fun h9 hC => ?_)
  refine XA.dup dX12_init_590 rfl ?_
  refine XA.bipush (v := J ((74 : Nat) : Int)) dX12_init_591 (by decide) ?_
  refine XA.ldc2 (v := 2482083979203865449) xc_X12_234 dX12_init_593 ?_
  refine XN.last (g := gl_standard) (i := 74) hC dX12_init_596 (by decide) (by decide) (fun h9 hC => ?_)
  refine XA.dup dX12_init_597 rfl ?_
  refine XA.bipush (v := J ((75 : Nat) : Int)) dX12_init_598 (by decide) ?_
  refine XA.ldc2 (v := 7954520474924511095) xc_X12_236 dX12_init_600 ?_
  refine XN.last (g := gl_standard) (i := 75) hC dX12_init_603 (by decide) (by decide) (fun h9 hC => ?_)
  refine XA.dup dX12_init_604 rfl ?_
  refine XA.bipush (v := J ((76 : Nat) : Int)) dX12_init_605 (by decide) ?_
  refine XA.ldc2 (v := 2462380932584533363) xc_X12_238 dX12_init_607 ?_
  refine XN.last (g := gl_standard) (i := 76) hC dX12_init_610 (by decide) (by decide) (fun h9 hC => ?_)
  refine XA.dup dX12_init_611 rfl ?_
  refine XA.bipush (v := J ((77 : Nat) : Int)) dX12_init_612 (by decide) ?_
  refine XA.ldc2 (v := 2466419133817120290) xc_X12_174 dX12_init_614 ?_
  refine XN.last (g := gl_standard) (i := 77) hC dX12_init_617 (by decide) (by decide) (fun h9 hC => ?_)
  refine XA.dup dX12_init_618 rfl ?_
  refine XA.bipush (v := J ((78 : Nat) : Int)) dX12_init_619 (by decide) ?_
  refine XA.ldc2 (v := 4189037195379440940) xc_X12_240 dX12_init_621 ?_
  refine XN.last (g := gl_standard) (i := 78) hC dX12_init_624 (by decide) (by decide) (fun h9 hC => ?_)
  refine XA.dup dX12_init_625 rfl ?_
  refine XA.bipush (v := J ((79 : Nat) : Int)) dX12_init_626 (by decide) ?_
  refine XA.ldc2 (v := 2482157833969869427) xc_X12_242 dX12_init_628 ?_
  refine XN.last (g := gl_standard) (i := 79) hC dX12_init_631 (by decide) (by decide) (fun h9 hC => ?_)
  refine XA.dup dX12_init_632 rfl ?_
  refine XA.bipush (v := J ((80 : Nat) : Int)) dX12_init_633 (by decide) ?_
  refine XA.ldc2 (v := 2485177891728400416) xc_X12_244 dX12_init_635 ?_
  refine XN.last (g := gl_standard) (i := 80) hC dX12_init_638 (by decide) (by decide) (fun h9 hC => ?_)
  refine XN.put hC (xp_X12_246 _) dX12_init_639 (Nat.le_of_ble_eq_true rfl) (fun h9 hC => ?_)
  have hC : Cn h h9 b (xO 11 [.int 0, .int 0, .int 0, .ref v1, .ref v2, .int 0, .ref v3, .int 0, .ref v4, .int 0, .ref v5, .ref v6, .ref v7, .int 0, .ref v8, .int 0, .int 0, .ref v9, .null, .null, .int 0, .null, .int 0, .null, .null, .null, .null, .null, .null, .int 0, .int 0, .int 0, .int 0, .null, .null, .null, .int 0, .null, .int 0, .null, .null, .null, .null, .null, .int 0, .int 0, .int 0, .null, .null, .null, .null, .null, .null, .null, .int 0, .null, .null, .int 0, .null, .null, .null, .null, .int 0, .int 0, .int 0, .int 0, .int 0, .null, .null, .null, .null, .null, .null, .null, .null, .int 0, .int 0, .null, .null, .int 0, .null, .int 0, .null, .int 0, .null, .null]) _ := hC
  refine XA.aload_n dX12_init_642 rfl ?_
  refine XA.bipush (v := J ((24 : Nat) : Int)) dX12_init_643 (by decide) ?_
  refine XN.newI (N := 24) hC xac_int dX12_init_645 (by decide) (by decide) (Nat.le_of_ble_eq_true rfl) (Nat.le_of_ble_eq_true rfl) (Nat.le_of_ble_eq_true rfl) (fun v10 h9 hC => ?_)
  refine XN.put hC (xp_X12_250 _) dX12_init_647 (Nat.le_of_ble_eq_true rfl) (fun h9 hC => ?_)
  have hC : Cn h h9 b (xO 11 [.int 0, .int 0, .int 0, .ref v1, .ref v2, .int 0, .ref v3, .int 0, .ref v4, .int 0, .ref v5, .ref v6, .ref v7, .int 0, .ref v8, .int 0, .int 0, .ref v9, .ref v10, .null, .int 0, .null, .int 0, .null, .null, .null, .null, .null, .null, .int 0, .int 0, .int 0, .int 0, .null, .null, .null, .int 0, .null, .int 0, .null, .null, .null, .null, .null, .int 0, .int 0, .int 0, .null, .null, .null, .null, .null, .null, .null, .int 0, .null, .null, .int 0, .null, .null, .null, .null, .int 0, .int 0, .int 0, .int 0, .int 0, .null, .null, .null, .null, .null, .null, .null, .null, .int 0, .int 0, .null, .null, .int 0, .null, .int 0, .null, .int 0, .null, .null]) _ := hC
  refine XA.aload_n dX12_init_650 rfl ?_
  refine XA.bipush (v := J ((16 : Nat) : Int)) dX12_init_651 (by decide) ?_
  refine XN.newI (N := 16) hC xac_int dX12_init_653 (by decide) (by decide) (Nat.le_of_ble_eq_true rfl) (Nat.le_of_ble_eq_true rfl) (Nat.le_of_ble_eq_true rfl) (fun v11 h9 hC => ?_)
  refine XN.put hC (xp_X12_253 _) dX12_init_655 (Nat.le_of_ble_eq_true rfl) (fun h9 hC => ?_)
  have hC : Cn h h9 b (xO 11 [.int 0, .int 0, .int 0, .ref v1, .ref v2, .int 0, .ref v3, .int 0, .ref v4, .int 0, .ref v5, .ref v6, .ref v7, .int 0, .ref v8, .int 0, .int 0, .ref v9, .ref v10, .ref v11, .int 0, .null, .int 0, .null, .null, .null, .null, .null, .null, .int 0, .int 0, .int 0, .int 0, .null, .null, .null, .int 0, .null, .int 0, .null, .null, .null, .null, .null, .int 0, .int 0, .int 0, .null, .null, .null, .null, .null, .null, .null, .int 0, .null, .null, .int 0, .null, .null, .null, .null, .int 0, .int 0, .int 0, .int 0, .int 0, .null, .null, .null, .null, .null, .null, .null, .null, .int 0, .int 0, .null, .null, .int 0, .null, .int 0, .null, .int 0, .null, .null]) _ := hC
  refine XA.aload_n dX12_init_658 rfl ?_
  refine XA.bipush (v := J ((13 : Nat) : Int)) dX12_init_659 (by decide) ?_
  refine XN.newI (N := 13) hC xac_int dX12_init_661 (by decide) (by decide) (Nat.le_of_ble_eq_true rfl) (Nat.le_of_ble_eq_true rfl) (Nat.le_of_ble_eq_true rfl) (fun v12 h9 hC => ?_)
  refine XN.put hC (xp_X12_256 _) dX12_init_663 (Nat.le_of_ble_eq_true rfl) (fun h9 hC => ?_)
  have hC : Cn h h9 b (xO 11 [.int 0, .int 0, .int 0, .ref v1, .ref v2, .int 0, .ref v3, .int 0, .ref v4, .int 0, .ref v5, .ref v6, .ref v7, .int 0, .ref v8, .int 0, .int 0, .ref v9, .ref v10, .ref v11, .int 0, .ref v12, .int 0, .null, .null, .null, .null, .null, .null, .int 0, .int 0, .int 0, .int 0, .null, .null, .null, .int 0, .null, .int 0, .null, .null, .null, .null, .null, .int 0, .int 0, .int 0, .null, .null, .null, .null, .null, .null, .null, .int 0, .null, .null, .int 0, .null, .null, .null, .null, .int 0, .int 0, .int 0, .int 0, .int 0, .null, .null, .null, .null, .null, .null, .null, .null, .int 0, .int 0, .null, .null, .int 0, .null, .int 0, .null, .int 0, .null, .null]) _ := hC
  refine XA.aload_n dX12_init_666 rfl ?_
  refine XA.bipush (v := J ((16 : Nat) : Int)) dX12_init_667 (by decide) ?_
  refine XN.newI (N := 16) hC xac_int dX12_init_669 (by decide) (by decide) (Nat.le_of_ble_eq_true rfl) (Nat.le_of_ble_eq_true rfl) (Nat.le_of_ble_eq_true rfl) (fun v13 h9 hC => ?_)
  refine XN.put hC (xp_X12_259 _) dX12_init_671 (Nat.le_of_ble_eq_true rfl) (fun h9 hC => ?_)
  have hC : Cn h h9 b (xO 11 [.int 0, .int 0, .int 0, .ref v1, .ref v2, .int 0, .ref v3, .int 0, .ref v4, .int 0, .ref v5, .ref v6, .ref v7, .int 0, .ref v8, .int 0, .int 0, .ref v9, .ref v10, .ref v11, .int 0, .ref v12, .int 0, .ref v13, .null, .null, .null, .null, .null, .int 0, .int 0, .int 0, .int 0, .null, .null, .null, .int 0, .null, .int 0, .null, .null, .null, .null, .null, .int 0, .int 0, .int 0, .null, .null, .null, .null, .null, .null, .null, .int 0, .null, .null, .int 0, .null, .null, .null, .null, .int 0, .int 0, .int 0, .int 0, .int 0, .null, .null, .null, .null, .null, .null, .null, .null, .int 0, .int 0, .null, .null, .int 0, .null, .int 0, .null, .int 0, .null, .null]) _ := hC
  refine XA.aload_n dX12_init_674 rfl ?_
  refine XA.bipush (v := J ((16 : Nat) : Int)) dX12_init_675 (by decide) ?_
  refine XN.newI (N := 16) hC xac_int dX12_init_677 (by decide) (by decide) (Nat.le_of_ble_eq_true rfl) (Nat.le_of_ble_eq_true rfl) (Nat.le_of_ble_eq_true rfl) (fun v14 h9 hC => ?_)
  refine XN.put hC (xp_X12_262 _) dX12_init_679 (Nat.le_of_ble_eq_true rfl) (fun h9 hC => ?_)
  have hC : Cn h h9 b (xO 11 [.int 0, .int 0, .int 0, .ref v1, .ref v2, .int 0, .ref v3, .int 0, .ref v4, .int 0, .ref v5, .ref v6, .ref v7, .int 0, .ref v8, .int 0, .int 0, .ref v9, .ref v10, .ref v11, .int 0, .ref v12, .int 0, .ref v13, .ref v14, .null, .null, .null, .null, .int 0, .int 0, .int 0, .int 0, .null, .null, .null, .int 0, .null, .int 0, .null, .null, .null, .null, .null, .int 0, .int 0, .int 0, .null, .null, .null, .null, .null, .null, .null, .int 0, .null, .null, .int 0, .null, .null, .null, .null, .int 0, .int 0, .int 0, .int 0, .int 0, .null, .null, .null, .null, .null, .null, .null, .null, .int 0, .int 0, .null, .null, .int 0, .null, .int 0, .null, .int 0, .null, .null]) _ := hC
  refine XA.aload_n dX12_init_682 rfl ?_
  refine XA.bipush (v := J ((16 : Nat) : Int)) dX12_init_683 (by decide) ?_
  refine XN.newI (N := 16) hC xac_int dX12_init_685 (by decide) (by decide) (Nat.le_of_ble_eq_true rfl) (Nat.le_of_ble_eq_true rfl) (Nat.le_of_ble_eq_true rfl) (fun v15 h9 hC => ?_)
  refine XN.put hC (xp_X12_265 _) dX12_init_687 (Nat.le_of_ble_eq_true rfl) (fun h9 hC => ?_)
  have hC : Cn h h9 b (xO 11 [.int 0, .int 0, .int 0, .ref v1, .ref v2, .int 0, .ref v3, .int 0, .ref v4, .int 0, .ref v5, .ref v6, .ref v7, .int 0, .ref v8, .int 0, .int 0, .ref v9, .ref v10, .ref v11, .int 0, .ref v12, .int 0, .ref v13, .ref v14, .ref v15, .null, .null, .null, .int 0, .int 0, .int 0, .int 0, .null, .null, .null, .int 0, .null, .int 0, .null, .null, .null, .null, .null, .int 0, .int 0, .int 0, .null, .null, .null, .null, .null, .null, .null, .int 0, .null, .null, .int 0, .null, .null, .null, .null, .int 0, .int 0, .int 0, .int 0, .int 0, .null, .null, .null, .null, .null, .null, .null, .null, .int 0, .int 0, .null, .null, .int 0, .null, .int 0, .null, .int 0, .null, .null]) _ := hC
  refine XA.aload_n dX12_init_690 rfl ?_
  refine XA.ldcw (v := J ((80000 : Nat) : Int)) xc_X12_268 dX12_init_691 ?_
  refine XN.newI (N := 80000) hC xac_int dX12_init_694 (by decide) (by decide) (Nat.le_of_ble_eq_true rfl) (Nat.le_of_ble_eq_true rfl) (Nat.le_of_ble_eq_true rfl) (fun v16 h9 hC => ?_)
  refine XN.put hC (xp_X12_269 _) dX12_init_696 (Nat.le_of_ble_eq_true rfl) (fun h9 hC => ?_)
  have hC : Cn h h9 b (xO 11 [.int 0, .int 0, .int 0, .ref v1, .ref v2, .int 0, .ref v3, .int 0, .ref v4, .int 0, .ref v5, .ref v6, .ref v7, .int 0, .ref v8, .int 0, .int 0, .ref v9, .ref v10, .ref v11, .int 0, .ref v12, .int 0, .ref v13, .ref v14, .ref v15, .ref v16, .null, .null, .int 0, .int 0, .int 0, .int 0, .null, .null, .null, .int 0, .null, .int 0, .null, .null, .null, .null, .null, .int 0, .int 0, .int 0, .null, .null, .null, .null, .null, .null, .null, .int 0, .null, .null, .int 0, .null, .null, .null, .null, .int 0, .int 0, .int 0, .int 0, .int 0, .null, .null, .null, .null, .null, .null, .null, .null, .int 0, .int 0, .null, .null, .int 0, .null, .int 0, .null, .int 0, .null, .null]) _ := hC
  refine XA.aload_n dX12_init_699 rfl ?_
  refine XA.iconst (v := J ((2 : Nat) : Int)) dX12_init_700 (by decide) ?_
  refine XN.newI (N := 2) hC xac_int dX12_init_701 (by decide) (by decide) (Nat.le_of_ble_eq_true rfl) (Nat.le_of_ble_eq_true rfl) (Nat.le_of_ble_eq_true rfl) (fun v17 h9 hC => ?_)
  refine XN.put hC (xp_X12_272 _) dX12_init_703 (Nat.le_of_ble_eq_true rfl) (fun h9 hC => ?_)
  have hC : Cn h h9 b (xO 11 [.int 0, .int 0, .int 0, .ref v1, .ref v2, .int 0, .ref v3, .int 0, .ref v4, .int 0, .ref v5, .ref v6, .ref v7, .int 0, .ref v8, .int 0, .int 0, .ref v9, .ref v10, .ref v11, .int 0, .ref v12, .int 0, .ref v13, .ref v14, .ref v15, .ref v16, .ref v17, .null, .int 0, .int 0, .int 0, .int 0, .null, .null, .null, .int 0, .null, .int 0, .null, .null, .null, .null, .null, .int 0, .int 0, .int 0, .null, .null, .null, .null, .null, .null, .null, .int 0, .null, .null, .int 0, .null, .null, .null, .null, .int 0, .int 0, .int 0, .int 0, .int 0, .null, .null, .null, .null, .null, .null, .null, .null, .int 0, .int 0, .null, .null, .int 0, .null, .int 0, .null, .int 0, .null, .null]) _ := hC
  refine XA.aload_n dX12_init_706 rfl ?_
  refine XA.sipush (v := J ((1000 : Nat) : Int)) dX12_init_707 (by decide) ?_
  refine XN.newI (N := 1000) hC xac_int dX12_init_710 (by decide) (by decide) (Nat.le_of_ble_eq_true rfl) (Nat.le_of_ble_eq_true rfl) (Nat.le_of_ble_eq_true rfl) (fun v18 h9 hC => ?_)
  refine XN.put hC (xp_X12_275 _) dX12_init_712 (Nat.le_of_ble_eq_true rfl) (fun h9 hC => ?_)
  have hC : Cn h h9 b (xO 11 [.int 0, .int 0, .int 0, .ref v1, .ref v2, .int 0, .ref v3, .int 0, .ref v4, .int 0, .ref v5, .ref v6, .ref v7, .int 0, .ref v8, .int 0, .int 0, .ref v9, .ref v10, .ref v11, .int 0, .ref v12, .int 0, .ref v13, .ref v14, .ref v15, .ref v16, .ref v17, .ref v18, .int 0, .int 0, .int 0, .int 0, .null, .null, .null, .int 0, .null, .int 0, .null, .null, .null, .null, .null, .int 0, .int 0, .int 0, .null, .null, .null, .null, .null, .null, .null, .int 0, .null, .null, .int 0, .null, .null, .null, .null, .int 0, .int 0, .int 0, .int 0, .int 0, .null, .null, .null, .null, .null, .null, .null, .null, .int 0, .int 0, .null, .null, .int 0, .null, .int 0, .null, .int 0, .null, .null]) _ := hC
  refine XA.aload_n dX12_init_715 rfl ?_
  refine XA.bipush (v := J ((101 : Nat) : Int)) dX12_init_716 (by decide) ?_
  refine XN.newI (N := 101) hC xac_int dX12_init_718 (by decide) (by decide) (Nat.le_of_ble_eq_true rfl) (Nat.le_of_ble_eq_true rfl) (Nat.le_of_ble_eq_true rfl) (fun v19 h9 hC => ?_)
  refine XN.put hC (xp_X12_278 _) dX12_init_720 (Nat.le_of_ble_eq_true rfl) (fun h9 hC => ?_)
  have hC : Cn h h9 b (xO 11 [.int 0, .int 0, .int 0, .ref v1, .ref v2, .int 0, .ref v3, .int 0, .ref v4, .int 0, .ref v5, .ref v6, .ref v7, .int 0, .ref v8, .int 0, .int 0, .ref v9, .ref v10, .ref v11, .int 0, .ref v12, .int 0, .ref v13, .ref v14, .ref v15, .ref v16, .ref v17, .ref v18, .int 0, .int 0, .int 0, .int 0, .ref v19, .null, .null, .int 0, .null, .int 0, .null, .null, .null, .null, .null, .int 0, .int 0, .int 0, .null, .null, .null, .null, .null, .null, .null, .int 0, .null, .null, .int 0, .null, .null, .null, .null, .int 0, .int 0, .int 0, .int 0, .int 0, .null, .null, .null, .null, .null, .null, .null, .null, .int 0, .int 0, .null, .null, .int 0, .null, .int 0, .null, .int 0, .null, .null]) _ := hC
  refine XA.aload_n dX12_init_723 rfl ?_
  refine XA.bipush (v := J ((101 : Nat) : Int)) dX12_init_724 (by decide) ?_
  refine XN.newI (N := 101) hC xac_int dX12_init_726 (by decide) (by decide) (Nat.le_of_ble_eq_true rfl) (Nat.le_of_ble_eq_true rfl) (Nat.le_of_ble_eq_true rfl) (fun v20 h9 hC => ?_)
  refine XN.put hC (xp_X12_281 _) dX12_init_728 (Nat.le_of_ble_eq_true rfl) (fun h9 hC => ?_)
  have hC : Cn h h9 b (xO 11 [.int 0, .int 0, .int 0, .ref v1, .ref v2, .int 0, .ref v3, .int 0, .ref v4, .int 0, .ref v5, .ref v6, .ref v7, .int 0, .ref v8, .int 0, .int 0, .ref v9, .ref v10, .ref v11, .int 0, .ref v12, .int 0, .ref v13, .ref v14, .ref v15, .ref v16, .ref v17, .ref v18, .int 0, .int 0, .int 0, .int 0, .ref v19, .ref v20, .null, .int 0, .null, .int 0, .null, .null, .null, .null, .null, .int 0, .int 0, .int 0, .null, .null, .null, .null, .null, .null, .null, .int 0, .null, .null, .int 0, .null, .null, .null, .null, .int 0, .int 0, .int 0, .int 0, .int 0, .null, .null, .null, .null, .null, .null, .null, .null, .int 0, .int 0, .null, .null, .int 0, .null, .int 0, .null, .int 0, .null, .null]) _ := hC
  refine XA.aload_n dX12_init_731 rfl ?_
  refine XA.bipush (v := J ((101 : Nat) : Int)) dX12_init_732 (by decide) ?_
  refine XN.newZ (N := 101) hC xac_boolean dX12_init_734 (by decide) (by decide) (Nat.le_of_ble_eq_true rfl) (Nat.le_of_ble_eq_true rfl) (Nat.le_of_ble_eq_true rfl) (fun v21 h9 hC => ?_)
  refine XN.put hC (xp_X12_284 _) dX12_init_736 (Nat.le_of_ble_eq_true rfl) (fun h9 hC => ?_)
  have hC : Cn h h9 b (xO 11 [.int 0, .int 0, .int 0, .ref v1, .ref v2, .int 0, .ref v3, .int 0, .ref v4, .int 0, .ref v5, .ref v6, .ref v7, .int 0, .ref v8, .int 0, .int 0, .ref v9, .ref v10, .ref v11, .int 0, .ref v12, .int 0, .ref v13, .ref v14, .ref v15, .ref v16, .ref v17, .ref v18, .int 0, .int 0, .int 0, .int 0, .ref v19, .ref v20, .ref v21, .int 0, .null, .int 0, .null, .null, .null, .null, .null, .int 0, .int 0, .int 0, .null, .null, .null, .null, .null, .null, .null, .int 0, .null, .null, .int 0, .null, .null, .null, .null, .int 0, .int 0, .int 0, .int 0, .int 0, .null, .null, .null, .null, .null, .null, .null, .null, .int 0, .int 0, .null, .null, .int 0, .null, .int 0, .null, .int 0, .null, .null]) _ := hC
  refine XA.aload_n dX12_init_739 rfl ?_
  refine XA.bipush (v := J ((6 : Nat) : Int)) dX12_init_740 (by decide) ?_
  refine XN.newL (N := 6) hC xac_long dX12_init_742 (by decide) (by decide) (Nat.le_of_ble_eq_true rfl) (Nat.le_of_ble_eq_true rfl) (Nat.le_of_ble_eq_true rfl) (fun v22 h9 hC => ?_)
  rw [xlp_0 gl_ops] at hC
  refine XA.dup dX12_init_744 rfl ?_
  refine XA.iconst (v := J ((0 : Nat) : Int)) dX12_init_745 (by decide) ?_
  refine XA.ldc2 (v := 7017844070512852992) xc_X12_288 dX12_init_746 ?_
  refine XN.last (g := gl_ops) (i := 0) hC dX12_init_749 (by decide) (by decide) (fun h9 hC => ?_)
  refine XA.dup dX12_init_750 rfl ?_
  refine XA.iconst (v := J ((1 : Nat) : Int)) dX12_init_751 (by decide) ?_
  refine XA.ldc2 (v := 8243115018466689024) xc_X12_290 dX12_init_752 ?_
  refine XN.last (g := gl_ops) (i := 1) hC dX12_init_755 (by decide) (by decide) (fun h9 hC => ?_)
  refine XA.dup dX12_init_756 rfl ?_
  refine XA.iconst (v := J ((2 : Nat) : Int)) dX12_init_757 (by decide) ?_
  refine XA.ldc2 (v := 8243118303764243712) xc_X12_292 dX12_init_758 ?_
  refine XN.last (g := gl_ops) (i := 2) hC dX12_init_761 (by decide) (by decide) (fun h9 hC => ?_)
  refine XA.dup dX12_init_762 rfl ?_
  refine XA.iconst (v := J ((3 : Nat) : Int)) dX12_init_763 (by decide) ?_
  refine XA.ldc2 (v := 7885651648712802304) xc_X12_294 dX12_init_764 ?_
  refine XN.last (g := gl_ops) (i := 3) hC dX12_init_767 (by decide) (by decide) (fun h9 hC => ?_)
  refine XA.dup dX12_init_768 rfl ?_
  refine XA.iconst (v := J ((4 : Nat) : Int)) dX12_init_769 (by decide) ?_
  refine XA.ldc2 (v := 7165069197163102208) xc_X12_296 dX12_init_770 ?_
  refine XN.last (g := gl_ops) (i := 4) hC dX12_init_773 (by decide) (by decide) (fun h9 hC => ?_)
  refine XA.dup dX12_init_774 rfl ?_
  refine XA.iconst (v := J ((5 : Nat) : Int)) dX12_init_775 (by decide) ?_
  refine XA.ldc2 (v := 8387236823100817408) xc_X12_298 dX12_init_776 ?_
  refine XN.last (g := gl_ops) (i := 5) hC dX12_init_779 (by decide) (by decide) (fun h9 hC => ?_)
  refine XN.put hC (xp_X12_300 _) dX12_init_780 (Nat.le_of_ble_eq_true rfl) (fun h9 hC => ?_)
  have hC : Cn h h9 b (xO 11 [.int 0, .int 0, .int 0, .ref v1, .ref v2, .int 0, .ref v3, .int 0, .ref v4, .int 0, .ref v5, .ref v6, .ref v7, .int 0, .ref v8, .int 0, .int 0, .ref v9, .ref v10, .ref v11, .int 0, .ref v12, .int 0, .ref v13, .ref v14, .ref v15, .ref v16, .ref v17, .ref v18, .int 0, .int 0, .int 0, .int 0, .ref v19, .ref v20, .ref v21, .int 0, .ref v22, .int 0, .null, .null, .null, .null, .null, .int 0, .int 0, .int 0, .null, .null, .null, .null, .null, .null, .null, .int 0, .null, .null, .int 0, .null, .null, .null, .null, .int 0, .int 0, .int 0, .int 0, .int 0, .null, .null, .null, .null, .null, .null, .null, .null, .int 0, .int 0, .null, .null, .int 0, .null, .int 0, .null, .int 0, .null, .null]) _ := hC
  refine XA.aload_n dX12_init_783 rfl ?_
  refine XA.sipush (v := J ((10201 : Nat) : Int)) dX12_init_784 (by decide) ?_
  refine XN.newI (N := 10201) hC xac_int dX12_init_787 (by decide) (by decide) (Nat.le_of_ble_eq_true rfl) (Nat.le_of_ble_eq_true rfl) (Nat.le_of_ble_eq_true rfl) (fun v23 h9 hC => ?_)
  refine XN.put hC (xp_X12_303 _) dX12_init_789 (Nat.le_of_ble_eq_true rfl) (fun h9 hC => ?_)
  have hC : Cn h h9 b (xO 11 [.int 0, .int 0, .int 0, .ref v1, .ref v2, .int 0, .ref v3, .int 0, .ref v4, .int 0, .ref v5, .ref v6, .ref v7, .int 0, .ref v8, .int 0, .int 0, .ref v9, .ref v10, .ref v11, .int 0, .ref v12, .int 0, .ref v13, .ref v14, .ref v15, .ref v16, .ref v17, .ref v18, .int 0, .int 0, .int 0, .int 0, .ref v19, .ref v20, .ref v21, .int 0, .ref v22, .int 0, .ref v23, .null, .null, .null, .null, .int 0, .int 0, .int 0, .null, .null, .null, .null, .null, .null, .null, .int 0, .null, .null, .int 0, .null, .null, .null, .null, .int 0, .int 0, .int 0, .int 0, .int 0, .null, .null, .null, .null, .null, .null, .null, .null, .int 0, .int 0, .null, .null, .int 0, .null, .int 0, .null, .int 0, .null, .null]) _ := hC
  refine XA.aload_n dX12_init_792 rfl ?_
  refine XA.bipush (v := J ((101 : Nat) : Int)) dX12_init_793 (by decide) ?_
  refine XN.newZ (N := 101) hC xac_boolean dX12_init_795 (by decide) (by decide) (Nat.le_of_ble_eq_true rfl) (Nat.le_of_ble_eq_true rfl) (Nat.le_of_ble_eq_true rfl) (fun v24 h9 hC => ?_)
  refine XN.put hC (xp_X12_306 _) dX12_init_797 (Nat.le_of_ble_eq_true rfl) (fun h9 hC => ?_)
  have hC : Cn h h9 b (xO 11 [.int 0, .int 0, .int 0, .ref v1, .ref v2, .int 0, .ref v3, .int 0, .ref v4, .int 0, .ref v5, .ref v6, .ref v7, .int 0, .ref v8, .int 0, .int 0, .ref v9, .ref v10, .ref v11, .int 0, .ref v12, .int 0, .ref v13, .ref v14, .ref v15, .ref v16, .ref v17, .ref v18, .int 0, .int 0, .int 0, .int 0, .ref v19, .ref v20, .ref v21, .int 0, .ref v22, .int 0, .ref v23, .ref v24, .null, .null, .null, .int 0, .int 0, .int 0, .null, .null, .null, .null, .null, .null, .null, .int 0, .null, .null, .int 0, .null, .null, .null, .null, .int 0, .int 0, .int 0, .int 0, .int 0, .null, .null, .null, .null, .null, .null, .null, .null, .int 0, .int 0, .null, .null, .int 0, .null, .int 0, .null, .int 0, .null, .null]) _ := hC
  refine XA.aload_n dX12_init_800 rfl ?_
  refine XA.bipush (v := J ((16 : Nat) : Int)) dX12_init_801 (by decide) ?_
  refine XN.newI (N := 16) hC xac_int dX12_init_803 (by decide) (by decide) (Nat.le_of_ble_eq_true rfl) (Nat.le_of_ble_eq_true rfl) (Nat.le_of_ble_eq_true rfl) (fun v25 h9 hC => ?_)
  refine XN.put hC (xp_X12_309 _) dX12_init_805 (Nat.le_of_ble_eq_true rfl) (fun h9 hC => ?_)
  have hC : Cn h h9 b (xO 11 [.int 0, .int 0, .int 0, .ref v1, .ref v2, .int 0, .ref v3, .int 0, .ref v4, .int 0, .ref v5, .ref v6, .ref v7, .int 0, .ref v8, .int 0, .int 0, .ref v9, .ref v10, .ref v11, .int 0, .ref v12, .int 0, .ref v13, .ref v14, .ref v15, .ref v16, .ref v17, .ref v18, .int 0, .int 0, .int 0, .int 0, .ref v19, .ref v20, .ref v21, .int 0, .ref v22, .int 0, .ref v23, .ref v24, .ref v25, .null, .null, .int 0, .int 0, .int 0, .null, .null, .null, .null, .null, .null, .null, .int 0, .null, .null, .int 0, .null, .null, .null, .null, .int 0, .int 0, .int 0, .int 0, .int 0, .null, .null, .null, .null, .null, .null, .null, .null, .int 0, .int 0, .null, .null, .int 0, .null, .int 0, .null, .int 0, .null, .null]) _ := hC
  refine XA.aload_n dX12_init_808 rfl ?_
  refine XA.bipush (v := J ((16 : Nat) : Int)) dX12_init_809 (by decide) ?_
  refine XN.newI (N := 16) hC xac_int dX12_init_811 (by decide) (by decide) (Nat.le_of_ble_eq_true rfl) (Nat.le_of_ble_eq_true rfl) (Nat.le_of_ble_eq_true rfl) (fun v26 h9 hC => ?_)
  refine XN.put hC (xp_X12_312 _) dX12_init_813 (Nat.le_of_ble_eq_true rfl) (fun h9 hC => ?_)
  have hC : Cn h h9 b (xO 11 [.int 0, .int 0, .int 0, .ref v1, .ref v2, .int 0, .ref v3, .int 0, .ref v4, .int 0, .ref v5, .ref v6, .ref v7, .int 0, .ref v8, .int 0, .int 0, .ref v9, .ref v10, .ref v11, .int 0, .ref v12, .int 0, .ref v13, .ref v14, .ref v15, .ref v16, .ref v17, .ref v18, .int 0, .int 0, .int 0, .int 0, .ref v19, .ref v20, .ref v21, .int 0, .ref v22, .int 0, .ref v23, .ref v24, .ref v25, .ref v26, .null, .int 0, .int 0, .int 0, .null, .null, .null, .null, .null, .null, .null, .int 0, .null, .null, .int 0, .null, .null, .null, .null, .int 0, .int 0, .int 0, .int 0, .int 0, .null, .null, .null, .null, .null, .null, .null, .null, .int 0, .int 0, .null, .null, .int 0, .null, .int 0, .null, .int 0, .null, .null]) _ := hC
  refine XA.aload_n dX12_init_816 rfl ?_
  refine XA.bipush (v := J ((16 : Nat) : Int)) dX12_init_817 (by decide) ?_
  refine XN.newI (N := 16) hC xac_int dX12_init_819 (by decide) (by decide) (Nat.le_of_ble_eq_true rfl) (Nat.le_of_ble_eq_true rfl) (Nat.le_of_ble_eq_true rfl) (fun v27 h9 hC => ?_)
  refine XN.put hC (xp_X12_315 _) dX12_init_821 (Nat.le_of_ble_eq_true rfl) (fun h9 hC => ?_)
  have hC : Cn h h9 b (xO 11 [.int 0, .int 0, .int 0, .ref v1, .ref v2, .int 0, .ref v3, .int 0, .ref v4, .int 0, .ref v5, .ref v6, .ref v7, .int 0, .ref v8, .int 0, .int 0, .ref v9, .ref v10, .ref v11, .int 0, .ref v12, .int 0, .ref v13, .ref v14, .ref v15, .ref v16, .ref v17, .ref v18, .int 0, .int 0, .int 0, .int 0, .ref v19, .ref v20, .ref v21, .int 0, .ref v22, .int 0, .ref v23, .ref v24, .ref v25, .ref v26, .ref v27, .int 0, .int 0, .int 0, .null, .null, .null, .null, .null, .null, .null, .int 0, .null, .null, .int 0, .null, .null, .null, .null, .int 0, .int 0, .int 0, .int 0, .int 0, .null, .null, .null, .null, .null, .null, .null, .null, .int 0, .int 0, .null, .null, .int 0, .null, .int 0, .null, .int 0, .null, .null]) _ := hC
  refine XA.aload_n dX12_init_824 rfl ?_
  refine XA.bipush (v := J ((16 : Nat) : Int)) dX12_init_825 (by decide) ?_
  refine XN.newI (N := 16) hC xac_int dX12_init_827 (by decide) (by decide) (Nat.le_of_ble_eq_true rfl) (Nat.le_of_ble_eq_true rfl) (Nat.le_of_ble_eq_true rfl) (fun v28 h9 hC => ?_)
  refine XN.put hC (xp_X12_318 _) dX12_init_829 (Nat.le_of_ble_eq_true rfl) (fun h9 hC => ?_)
  have hC : Cn h h9 b (xO 11 [.int 0, .int 0, .int 0, .ref v1, .ref v2, .int 0, .ref v3, .int 0, .ref v4, .int 0, .ref v5, .ref v6, .ref v7, .int 0, .ref v8, .int 0, .int 0, .ref v9, .ref v10, .ref v11, .int 0, .ref v12, .int 0, .ref v13, .ref v14, .ref v15, .ref v16, .ref v17, .ref v18, .int 0, .int 0, .int 0, .int 0, .ref v19, .ref v20, .ref v21, .int 0, .ref v22, .int 0, .ref v23, .ref v24, .ref v25, .ref v26, .ref v27, .int 0, .int 0, .int 0, .ref v28, .null, .null, .null, .null, .null, .null, .int 0, .null, .null, .int 0, .null, .null, .null, .null, .int 0, .int 0, .int 0, .int 0, .int 0, .null, .null, .null, .null, .null, .null, .null, .null, .int 0, .int 0, .null, .null, .int 0, .null, .int 0, .null, .int 0, .null, .null]) _ := hC
  refine XA.aload_n dX12_init_832 rfl ?_
  refine XA.bipush (v := J ((16 : Nat) : Int)) dX12_init_833 (by decide) ?_
  refine XN.newI (N := 16) hC xac_int dX12_init_835 (by decide) (by decide) (Nat.le_of_ble_eq_true rfl) (Nat.le_of_ble_eq_true rfl) (Nat.le_of_ble_eq_true rfl) (fun v29 h9 hC => ?_)
  refine XN.put hC (xp_X12_321 _) dX12_init_837 (Nat.le_of_ble_eq_true rfl) (fun h9 hC => ?_)
  have hC : Cn h h9 b (xO 11 [.int 0, .int 0, .int 0, .ref v1, .ref v2, .int 0, .ref v3, .int 0, .ref v4, .int 0, .ref v5, .ref v6, .ref v7, .int 0, .ref v8, .int 0, .int 0, .ref v9, .ref v10, .ref v11, .int 0, .ref v12, .int 0, .ref v13, .ref v14, .ref v15, .ref v16, .ref v17, .ref v18, .int 0, .int 0, .int 0, .int 0, .ref v19, .ref v20, .ref v21, .int 0, .ref v22, .int 0, .ref v23, .ref v24, .ref v25, .ref v26, .ref v27, .int 0, .int 0, .int 0, .ref v28, .ref v29, .null, .null, .null, .null, .null, .int 0, .null, .null, .int 0, .null, .null, .null, .null, .int 0, .int 0, .int 0, .int 0, .int 0, .null, .null, .null, .null, .null, .null, .null, .null, .int 0, .int 0, .null, .null, .int 0, .null, .int 0, .null, .int 0, .null, .null]) _ := hC
  refine XA.aload_n dX12_init_840 rfl ?_
  refine XA.bipush (v := J ((16 : Nat) : Int)) dX12_init_841 (by decide) ?_
  refine XN.newI (N := 16) hC xac_int dX12_init_843 (by decide) (by decide) (Nat.le_of_ble_eq_true rfl) (Nat.le_of_ble_eq_true rfl) (Nat.le_of_ble_eq_true rfl) (fun v30 h9 hC => ?_)
  refine XN.put hC (xp_X12_324 _) dX12_init_845 (Nat.le_of_ble_eq_true rfl) (fun h9 hC => ?_)
  have hC : Cn h h9 b (xO 11 [.int 0, .int 0, .int 0, .ref v1, .ref v2, .int 0, .ref v3, .int 0, .ref v4, .int 0, .ref v5, .ref v6, .ref v7, .int 0, .ref v8, .int 0, .int 0, .ref v9, .ref v10, .ref v11, .int 0, .ref v12, .int 0, .ref v13, .ref v14, .ref v15, .ref v16, .ref v17, .ref v18, .int 0, .int 0, .int 0, .int 0, .ref v19, .ref v20, .ref v21, .int 0, .ref v22, .int 0, .ref v23, .ref v24, .ref v25, .ref v26, .ref v27, .int 0, .int 0, .int 0, .ref v28, .ref v29, .ref v30, .null, .null, .null, .null, .int 0, .null, .null, .int 0, .null, .null, .null, .null, .int 0, .int 0, .int 0, .int 0, .int 0, .null, .null, .null, .null, .null, .null, .null, .null, .int 0, .int 0, .null, .null, .int 0, .null, .int 0, .null, .int 0, .null, .null]) _ := hC
  refine XA.aload_n dX12_init_848 rfl ?_
  refine XA.bipush (v := J ((16 : Nat) : Int)) dX12_init_849 (by decide) ?_
  refine XN.newI (N := 16) hC xac_int dX12_init_851 (by decide) (by decide) (Nat.le_of_ble_eq_true rfl) (Nat.le_of_ble_eq_true rfl) (Nat.le_of_ble_eq_true rfl) (fun v31 h9 hC => ?_)
  refine XN.put hC (xp_X12_327 _) dX12_init_853 (Nat.le_of_ble_eq_true rfl) (fun h9 hC => ?_)
  have hC : Cn h h9 b (xO 11 [.int 0, .int 0, .int 0, .ref v1, .ref v2, .int 0, .ref v3, .int 0, .ref v4, .int 0, .ref v5, .ref v6, .ref v7, .int 0, .ref v8, .int 0, .int 0, .ref v9, .ref v10, .ref v11, .int 0, .ref v12, .int 0, .ref v13, .ref v14, .ref v15, .ref v16, .ref v17, .ref v18, .int 0, .int 0, .int 0, .int 0, .ref v19, .ref v20, .ref v21, .int 0, .ref v22, .int 0, .ref v23, .ref v24, .ref v25, .ref v26, .ref v27, .int 0, .int 0, .int 0, .ref v28, .ref v29, .ref v30, .ref v31, .null, .null, .null, .int 0, .null, .null, .int 0, .null, .null, .null, .null, .int 0, .int 0, .int 0, .int 0, .int 0, .null, .null, .null, .null, .null, .null, .null, .null, .int 0, .int 0, .null, .null, .int 0, .null, .int 0, .null, .int 0, .null, .null]) _ := hC
  refine XA.aload_n dX12_init_856 rfl ?_
  refine XA.bipush (v := J ((16 : Nat) : Int)) dX12_init_857 (by decide) ?_
  refine XN.newI (N := 16) hC xac_int dX12_init_859 (by decide) (by decide) (Nat.le_of_ble_eq_true rfl) (Nat.le_of_ble_eq_true rfl) (Nat.le_of_ble_eq_true rfl) (fun v32 h9 hC => ?_)
  refine XN.put hC (xp_X12_330 _) dX12_init_861 (Nat.le_of_ble_eq_true rfl) (fun h9 hC => ?_)
  have hC : Cn h h9 b (xO 11 [.int 0, .int 0, .int 0, .ref v1, .ref v2, .int 0, .ref v3, .int 0, .ref v4, .int 0, .ref v5, .ref v6, .ref v7, .int 0, .ref v8, .int 0, .int 0, .ref v9, .ref v10, .ref v11, .int 0, .ref v12, .int 0, .ref v13, .ref v14, .ref v15, .ref v16, .ref v17, .ref v18, .int 0, .int 0, .int 0, .int 0, .ref v19, .ref v20, .ref v21, .int 0, .ref v22, .int 0, .ref v23, .ref v24, .ref v25, .ref v26, .ref v27, .int 0, .int 0, .int 0, .ref v28, .ref v29, .ref v30, .ref v31, .ref v32, .null, .null, .int 0, .null, .null, .int 0, .null, .null, .null, .null, .int 0, .int 0, .int 0, .int 0, .int 0, .null, .null, .null, .null, .null, .null, .null, .null, .int 0, .int 0, .null, .null, .int 0, .null, .int 0, .null, .int 0, .null, .null]) _ := hC
  refine XA.aload_n dX12_init_864 rfl ?_
  refine XA.bipush (v := J ((16 : Nat) : Int)) dX12_init_865 (by decide) ?_
  refine XN.newI (N := 16) hC xac_int dX12_init_867 (by decide) (by decide) (Nat.le_of_ble_eq_true rfl) (Nat.le_of_ble_eq_true rfl) (Nat.le_of_ble_eq_true rfl) (fun v33 h9 hC => ?_)
  refine XN.put hC (xp_X12_333 _) dX12_init_869 (Nat.le_of_ble_eq_true rfl) (fun h9 hC => ?_)
  have hC : Cn h h9 b (xO 11 [.int 0, .int 0, .int 0, .ref v1, .ref v2, .int 0, .ref v3, .int 0, .ref v4, .int 0, .ref v5, .ref v6, .ref v7, .int 0, .ref v8, .int 0, .int 0, .ref v9, .ref v10, .ref v11, .int 0, .ref v12, .int 0, .ref v13, .ref v14, .ref v15, .ref v16, .ref v17, .ref v18, .int 0, .int 0, .int 0, .int 0, .ref v19, .ref v20, .ref v21, .int 0, .ref v22, .int 0, .ref v23, .ref v24, .ref v25, .ref v26, .ref v27, .int 0, .int 0, .int 0, .ref v28, .ref v29, .ref v30, .ref v31, .ref v32, .ref v33, .null, .int 0, .null, .null, .int 0, .null, .null, .null, .null, .int 0, .int 0, .int 0, .int 0, .int 0, .null, .null, .null, .null, .null, .null, .null, .null, .int 0, .int 0, .null, .null, .int 0, .null, .int 0, .null, .int 0, .null, .null]) _ := hC
  refine XA.aload_n dX12_init_872 rfl ?_
  refine XA.bipush (v := J ((16 : Nat) : Int)) dX12_init_873 (by decide) ?_
  refine XN.newI (N := 16) hC xac_int dX12_init_875 (by decide) (by decide) (Nat.le_of_ble_eq_true rfl) (Nat.le_of_ble_eq_true rfl) (Nat.le_of_ble_eq_true rfl) (fun v34 h9 hC => ?_)
  refine XN.put hC (xp_X12_336 _) dX12_init_877 (Nat.le_of_ble_eq_true rfl) (fun h9 hC => ?_)
  have hC : Cn h h9 b (xO 11 [.int 0, .int 0, .int 0, .ref v1, .ref v2, .int 0, .ref v3, .int 0, .ref v4, .int 0, .ref v5, .ref v6, .ref v7, .int 0, .ref v8, .int 0, .int 0, .ref v9, .ref v10, .ref v11, .int 0, .ref v12, .int 0, .ref v13, .ref v14, .ref v15, .ref v16, .ref v17, .ref v18, .int 0, .int 0, .int 0, .int 0, .ref v19, .ref v20, .ref v21, .int 0, .ref v22, .int 0, .ref v23, .ref v24, .ref v25, .ref v26, .ref v27, .int 0, .int 0, .int 0, .ref v28, .ref v29, .ref v30, .ref v31, .ref v32, .ref v33, .ref v34, .int 0, .null, .null, .int 0, .null, .null, .null, .null, .int 0, .int 0, .int 0, .int 0, .int 0, .null, .null, .null, .null, .null, .null, .null, .null, .int 0, .int 0, .null, .null, .int 0, .null, .int 0, .null, .int 0, .null, .null]) _ := hC
  refine XA.aload_n dX12_init_880 rfl ?_
  refine XA.sipush (v := J ((402 : Nat) : Int)) dX12_init_881 (by decide) ?_
  refine XN.newI (N := 402) hC xac_int dX12_init_884 (by decide) (by decide) (Nat.le_of_ble_eq_true rfl) (Nat.le_of_ble_eq_true rfl) (Nat.le_of_ble_eq_true rfl) (fun v35 h9 hC => ?_)
  refine XN.put hC (xp_X12_339 _) dX12_init_886 (Nat.le_of_ble_eq_true rfl) (fun h9 hC => ?_)
  have hC : Cn h h9 b (xO 11 [.int 0, .int 0, .int 0, .ref v1, .ref v2, .int 0, .ref v3, .int 0, .ref v4, .int 0, .ref v5, .ref v6, .ref v7, .int 0, .ref v8, .int 0, .int 0, .ref v9, .ref v10, .ref v11, .int 0, .ref v12, .int 0, .ref v13, .ref v14, .ref v15, .ref v16, .ref v17, .ref v18, .int 0, .int 0, .int 0, .int 0, .ref v19, .ref v20, .ref v21, .int 0, .ref v22, .int 0, .ref v23, .ref v24, .ref v25, .ref v26, .ref v27, .int 0, .int 0, .int 0, .ref v28, .ref v29, .ref v30, .ref v31, .ref v32, .ref v33, .ref v34, .int 0, .ref v35, .null, .int 0, .null, .null, .null, .null, .int 0, .int 0, .int 0, .int 0, .int 0, .null, .null, .null, .null, .null, .null, .null, .null, .int 0, .int 0, .null, .null, .int 0, .null, .int 0, .null, .int 0, .null, .null]) _ := hC
  refine XA.aload_n dX12_init_889 rfl ?_
  refine XA.ldcw (v := J ((120000 : Nat) : Int)) xc_X12_342 dX12_init_890 ?_
  refine XN.newI (N := 120000) hC xac_int dX12_init_893 (by decide) (by decide) (Nat.le_of_ble_eq_true rfl) (Nat.le_of_ble_eq_true rfl) (Nat.le_of_ble_eq_true rfl) (fun v36 h9 hC => ?_)
  refine XN.put hC (xp_X12_343 _) dX12_init_895 (Nat.le_of_ble_eq_true rfl) (fun h9 hC => ?_)
  have hC : Cn h h9 b (xO 11 [.int 0, .int 0, .int 0, .ref v1, .ref v2, .int 0, .ref v3, .int 0, .ref v4, .int 0, .ref v5, .ref v6, .ref v7, .int 0, .ref v8, .int 0, .int 0, .ref v9, .ref v10, .ref v11, .int 0, .ref v12, .int 0, .ref v13, .ref v14, .ref v15, .ref v16, .ref v17, .ref v18, .int 0, .int 0, .int 0, .int 0, .ref v19, .ref v20, .ref v21, .int 0, .ref v22, .int 0, .ref v23, .ref v24, .ref v25, .ref v26, .ref v27, .int 0, .int 0, .int 0, .ref v28, .ref v29, .ref v30, .ref v31, .ref v32, .ref v33, .ref v34, .int 0, .ref v35, .ref v36, .int 0, .null, .null, .null, .null, .int 0, .int 0, .int 0, .int 0, .int 0, .null, .null, .null, .null, .null, .null, .null, .null, .int 0, .int 0, .null, .null, .int 0, .null, .int 0, .null, .int 0, .null, .null]) _ := hC
  refine XA.aload_n dX12_init_898 rfl ?_
  refine XA.sipush (v := J ((402 : Nat) : Int)) dX12_init_899 (by decide) ?_
  refine XN.newI (N := 402) hC xac_int dX12_init_902 (by decide) (by decide) (Nat.le_of_ble_eq_true rfl) (Nat.le_of_ble_eq_true rfl) (Nat.le_of_ble_eq_true rfl) (fun v37 h9 hC => ?_)
  refine XN.put hC (xp_X12_346 _) dX12_init_904 (Nat.le_of_ble_eq_true rfl) (fun h9 hC => ?_)
  have hC : Cn h h9 b (xO 11 [.int 0, .int 0, .int 0, .ref v1, .ref v2, .int 0, .ref v3, .int 0, .ref v4, .int 0, .ref v5, .ref v6, .ref v7, .int 0, .ref v8, .int 0, .int 0, .ref v9, .ref v10, .ref v11, .int 0, .ref v12, .int 0, .ref v13, .ref v14, .ref v15, .ref v16, .ref v17, .ref v18, .int 0, .int 0, .int 0, .int 0, .ref v19, .ref v20, .ref v21, .int 0, .ref v22, .int 0, .ref v23, .ref v24, .ref v25, .ref v26, .ref v27, .int 0, .int 0, .int 0, .ref v28, .ref v29, .ref v30, .ref v31, .ref v32, .ref v33, .ref v34, .int 0, .ref v35, .ref v36, .int 0, .ref v37, .null, .null, .null, .int 0, .int 0, .int 0, .int 0, .int 0, .null, .null, .null, .null, .null, .null, .null, .null, .int 0, .int 0, .null, .null, .int 0, .null, .int 0, .null, .int 0, .null, .null]) _ := hC
  refine XA.aload_n dX12_init_907 rfl ?_
  refine XA.ldcw (v := J ((120000 : Nat) : Int)) xc_X12_342 dX12_init_908 ?_
  refine XN.newI (N := 120000) hC xac_int dX12_init_911 (by decide) (by decide) (Nat.le_of_ble_eq_true rfl) (Nat.le_of_ble_eq_true rfl) (Nat.le_of_ble_eq_true rfl) (fun v38 h9 hC => ?_)
  refine XN.put hC (xp_X12_349 _) dX12_init_913 (Nat.le_of_ble_eq_true rfl) (fun h9 hC => ?_)
  have hC : Cn h h9 b (xO 11 [.int 0, .int 0, .int 0, .ref v1, .ref v2, .int 0, .ref v3, .int 0, .ref v4, .int 0, .ref v5, .ref v6, .ref v7, .int 0, .ref v8, .int 0, .int 0, .ref v9, .ref v10, .ref v11, .int 0, .ref v12, .int 0, .ref v13, .ref v14, .ref v15, .ref v16, .ref v17, .ref v18, .int 0, .int 0, .int 0, .int 0, .ref v19, .ref v20, .ref v21, .int 0, .ref v22, .int 0, .ref v23, .ref v24, .ref v25, .ref v26, .ref v27, .int 0, .int 0, .int 0, .ref v28, .ref v29, .ref v30, .ref v31, .ref v32, .ref v33, .ref v34, .int 0, .ref v35, .ref v36, .int 0, .ref v37, .ref v38, .null, .null, .int 0, .int 0, .int 0, .int 0, .int 0, .null, .null, .null, .null, .null, .null, .null, .null, .int 0, .int 0, .null, .null, .int 0, .null, .int 0, .null, .int 0, .null, .null]) _ := hC
  refine XA.aload_n dX12_init_916 rfl ?_
  refine XA.bipush (v := J ((16 : Nat) : Int)) dX12_init_917 (by decide) ?_
  refine XN.newL (N := 16) hC xac_long dX12_init_919 (by decide) (by decide) (Nat.le_of_ble_eq_true rfl) (Nat.le_of_ble_eq_true rfl) (Nat.le_of_ble_eq_true rfl) (fun v39 h9 hC => ?_)
  rw [xlp_0 gl_words] at hC
  refine XA.dup dX12_init_921 rfl ?_
  refine XA.iconst (v := J ((0 : Nat) : Int)) dX12_init_922 (by decide) ?_
  refine XA.lconst (v := 0) dX12_init_923 (by decide) ?_
  refine XN.last (g := gl_words) (i := 0) hC dX12_init_924 (by decide) (by decide) (fun h9 hC => ?_)
  refine XA.dup dX12_init_925 rfl ?_
  refine XA.iconst (v := J ((1 : Nat) : Int)) dX12_init_926 (by decide) ?_
  refine XA.ldc2 (v := 7739838810388692992) xc_X12_352 dX12_init_927 ?_
  refine XN.last (g := gl_words) (i := 1) hC dX12_init_930 (by decide) (by decide) (fun h9 hC => ?_)
  refine XA.dup dX12_init_931 rfl ?_
  refine XA.iconst (v := J ((2 : Nat) : Int)) dX12_init_932 (by decide) ?_
  refine XA.ldc2 (v := 7810756277239283712) xc_X12_354 dX12_init_933 ?_
  refine XN.last (g := gl_words) (i := 2) hC dX12_init_936 (by decide) (by decide) (fun h9 hC => ?_)
  refine XA.dup dX12_init_937 rfl ?_
  refine XA.iconst (v := J ((3 : Nat) : Int)) dX12_init_938 (by decide) ?_
  refine XA.ldc2 (v := 7885648414602428416) xc_X12_356 dX12_init_939 ?_
  refine XN.last (g := gl_words) (i := 3) hC dX12_init_942 (by decide) (by decide) (fun h9 hC => ?_)
  refine XA.dup dX12_init_943 rfl ?_
  refine XA.iconst (v := J ((4 : Nat) : Int)) dX12_init_944 (by decide) ?_
  refine XA.ldc2 (v := 8316019249309381492) xc_X12_358 dX12_init_945 ?_
  refine XN.last (g := gl_words) (i := 4) hC dX12_init_948 (by decide) (by decide) (fun h9 hC => ?_)
  refine XA.dup dX12_init_949 rfl ?_
  refine XA.iconst (v := J ((5 : Nat) : Int)) dX12_init_950 (by decide) ?_
  refine XA.ldc2 (v := 7813585268873851904) xc_X12_360 dX12_init_951 ?_
  refine XN.last (g := gl_words) (i := 5) hC dX12_init_954 (by decide) (by decide) (fun h9 hC => ?_)
  refine XA.dup dX12_init_955 rfl ?_
  refine XA.bipush (v := J ((6 : Nat) : Int)) dX12_init_956 (by decide) ?_
  refine XA.ldc2 (v := 7954875798920364032) xc_X12_362 dX12_init_958 ?_
  refine XN.last (g := gl_words) (i := 6) hC dX12_init_961 (by decide) (by decide) (fun h9 hC => ?_)
  refine XA.dup dX12_init_962 rfl ?_
  refine XA.bipush (v := J ((7 : Nat) : Int)) dX12_init_963 (by decide) ?_
  refine XA.ldc2 (v := 7738725069534265344) xc_X12_364 dX12_init_965 ?_
  refine XN.last (g := gl_words) (i := 7) hC dX12_init_968 (by decide) (by decide) (fun h9 hC => ?_)
  refine XA.dup dX12_init_969 rfl ?_
  refine XA.bipush (v := J ((8 : Nat) : Int)) dX12_init_970 (by decide) ?_
  refine XA.ldc2 (v := 8031158820429561856) xc_X12_366 dX12_init_972 ?_
  refine XN.last (g := gl_words) (i := 8) hC dX12_init_975 (by decide) (by decide) (fun h9 hC => ?_)
  refine XA.dup dX12_init_976 rfl ?_
  refine XA.bipush (v := J ((9 : Nat) : Int)) dX12_init_977 (by decide) ?_
  refine XA.ldc2 (v := 7598809992036089856) xc_X12_368 dX12_init_979 ?_
  refine XN.last (g := gl_words) (i := 9) hC dX12_init_982 (by decide) (by decide) (fun h9 hC => ?_)
  refine XA.dup dX12_init_983 rfl ?_
  refine XA.bipush (v := J ((10 : Nat) : Int)) dX12_init_984 (by decide) ?_
  refine XA.ldc2 (v := 8029474452595015680) xc_X12_370 dX12_init_986 ?_
  refine XN.last (g := gl_words) (i := 10) hC dX12_init_989 (by decide) (by decide) (fun h9 hC => ?_)
  refine XA.dup dX12_init_990 rfl ?_
  refine XA.bipush (v := J ((11 : Nat) : Int)) dX12_init_991 (by decide) ?_
  refine XA.ldc2 (v := 7020104666419560448) xc_X12_372 dX12_init_993 ?_
  refine XN.last (g := gl_words) (i := 11) hC dX12_init_996 (by decide) (by decide) (fun h9 hC => ?_)
  refine XA.dup dX12_init_997 rfl ?_
  refine XA.bipush (v := J ((12 : Nat) : Int)) dX12_init_998 (by decide) ?_
  refine XA.ldc2 (v := 8317987317335719936) xc_X12_374 dX12_init_1000 ?_
  refine XN.last (g := gl_words) (i := 12) hC dX12_init_1003 (by decide) (by decide) (fun h9 hC => ?_)
  refine XA.dup dX12_init_1004 rfl ?_
  refine XA.bipush (v := J ((13 : Nat) : Int)) dX12_init_1005 (by decide) ?_
  refine XA.ldc2 (v := 8029466236322578432) xc_X12_376 dX12_init_1007 ?_
  refine XN.last (g := gl_words) (i := 13) hC dX12_init_1010 (by decide) (by decide) (fun h9 hC => ?_)
  refine XA.dup dX12_init_1011 rfl ?_
  refine XA.bipush (v := J ((14 : Nat) : Int)) dX12_init_1012 (by decide) ?_
  refine XA.ldc2 (v := 7957706609935777792) xc_X12_378 dX12_init_1014 ?_
  refine XN.last (g := gl_words) (i := 14) hC dX12_init_1017 (by decide) (by decide) (fun h9 hC => ?_)
  refine XA.dup dX12_init_1018 rfl ?_
  refine XA.bipush (v := J ((15 : Nat) : Int)) dX12_init_1019 (by decide) ?_
  refine XA.ldc2 (v := 8243106843157594112) xc_X12_380 dX12_init_1021 ?_
  refine XN.last (g := gl_words) (i := 15) hC dX12_init_1024 (by decide) (by decide) (fun h9 hC => ?_)
  refine XN.put hC (xp_X12_382 _) dX12_init_1025 (Nat.le_of_ble_eq_true rfl) (fun h9 hC => ?_)
  have hC : Cn h h9 b (xO 11 [.int 0, .int 0, .int 0, .ref v1, .ref v2, .int 0, .ref v3, .int 0, .ref v4, .int 0, .ref v5, .ref v6, .ref v7, .int 0, .ref v8, .int 0, .int 0, .ref v9, .ref v10, .ref v11, .int 0, .ref v12, .int 0, .ref v13, .ref v14, .ref v15, .ref v16, .ref v17, .ref v18, .int 0, .int 0, .int 0, .int 0, .ref v19, .ref v20, .ref v21, .int 0, .ref v22, .int 0, .ref v23, .ref v24, .ref v25, .ref v26, .ref v27, .int 0, .int 0, .int 0, .ref v28, .ref v29, .ref v30, .ref v31, .ref v32, .ref v33, .ref v34, .int 0, .ref v35, .ref v36, .int 0, .ref v37, .ref v38, .ref v39, .null, .int 0, .int 0, .int 0, .int 0, .int 0, .null, .null, .null, .null, .null, .null, .null, .null, .int 0, .int 0, .null, .null, .int 0, .null, .int 0, .null, .int 0, .null, .null]) _ := hC
  refine XA.aload_n dX12_init_1028 rfl ?_
  refine XA.bipush (v := J ((7 : Nat) : Int)) dX12_init_1029 (by decide) ?_
  refine XN.newL (N := 7) hC xac_long dX12_init_1031 (by decide) (by decide) (Nat.le_of_ble_eq_true rfl) (Nat.le_of_ble_eq_true rfl) (Nat.le_of_ble_eq_true rfl) (fun v40 h9 hC => ?_)
  rw [xlp_0 gl_kinds] at hC
  refine XA.dup dX12_init_1033 rfl ?_
  refine XA.iconst (v := J ((0 : Nat) : Int)) dX12_init_1034 (by decide) ?_
  refine XA.ldc2 (v := 7957707058381219584) xc_X12_385 dX12_init_1035 ?_
  refine XN.last (g := gl_kinds) (i := 0) hC dX12_init_1038 (by decide) (by decide) (fun h9 hC => ?_)
  refine XA.dup dX12_init_1039 rfl ?_
  refine XA.iconst (v := J ((1 : Nat) : Int)) dX12_init_1040 (by decide) ?_
  refine XA.ldc2 (v := 8390898198566141952) xc_X12_387 dX12_init_1041 ?_
  refine XN.last (g := gl_kinds) (i := 1) hC dX12_init_1044 (by decide) (by decide) (fun h9 hC => ?_)
  refine XA.dup dX12_init_1045 rfl ?_
  refine XA.iconst (v := J ((2 : Nat) : Int)) dX12_init_1046 (by decide) ?_
  refine XA.ldc2 (v := 7959388185823412224) xc_X12_389 dX12_init_1047 ?_
  refine XN.last (g := gl_kinds) (i := 2) hC dX12_init_1050 (by decide) (by decide) (fun h9 hC => ?_)
  refine XA.dup dX12_init_1051 rfl ?_
  refine XA.iconst (v := J ((3 : Nat) : Int)) dX12_init_1052 (by decide) ?_
  refine XA.ldc2 (v := 8387242320658956288) xc_X12_391 dX12_init_1053 ?_
  refine XN.last (g := gl_kinds) (i := 3) hC dX12_init_1056 (by decide) (by decide) (fun h9 hC => ?_)
  refine XA.dup dX12_init_1057 rfl ?_
  refine XA.iconst (v := J ((4 : Nat) : Int)) dX12_init_1058 (by decide) ?_
  refine XA.ldc2 (v := 8245940284622372864) xc_X12_393 dX12_init_1059 ?_
  refine XN.last (g := gl_kinds) (i := 4) hC dX12_init_1062 (by decide) (by decide) (fun h9 hC => ?_)
  refine XA.dup dX12_init_1063 rfl ?_
  refine XA.iconst (v := J ((5 : Nat) : Int)) dX12_init_1064 (by decide) ?_
  refine XA.ldc2 (v := 7881703968177389568) xc_X12_395 dX12_init_1065 ?_
  refine XN.last (g := gl_kinds) (i := 5) hC dX12_init_1068 (by decide) (by decide) (fun h9 hC => ?_)
  refine XA.dup dX12_init_1069 rfl ?_
  refine XA.bipush (v := J ((6 : Nat) : Int)) dX12_init_1070 (by decide) ?_
  refine XA.ldc2 (v := 8604249599432982528) xc_X12_397 dX12_init_1072 ?_
  refine XN.last (g := gl_kinds) (i := 6) hC dX12_init_1075 (by decide) (by decide) (fun h9 hC => ?_)
  refine XN.put hC (xp_X12_399 _) dX12_init_1076 (Nat.le_of_ble_eq_true rfl) (fun h9 hC => ?_)
  have hC : Cn h h9 b (xO 11 [.int 0, .int 0, .int 0, .ref v1, .ref v2, .int 0, .ref v3, .int 0, .ref v4, .int 0, .ref v5, .ref v6, .ref v7, .int 0, .ref v8, .int 0, .int 0, .ref v9, .ref v10, .ref v11, .int 0, .ref v12, .int 0, .ref v13, .ref v14, .ref v15, .ref v16, .ref v17, .ref v18, .int 0, .int 0, .int 0, .int 0, .ref v19, .ref v20, .ref v21, .int 0, .ref v22, .int 0, .ref v23, .ref v24, .ref v25, .ref v26, .ref v27, .int 0, .int 0, .int 0, .ref v28, .ref v29, .ref v30, .ref v31, .ref v32, .ref v33, .ref v34, .int 0, .ref v35, .ref v36, .int 0, .ref v37, .ref v38, .ref v39, .ref v40, .int 0, .int 0, .int 0, .int 0, .int 0, .null, .null, .null, .null, .null, .null, .null, .null, .int 0, .int 0, .null, .null, .int 0, .null, .int 0, .null, .int 0, .null, .null]) _ := hC
  refine XA.aload_n dX12_init_1079 rfl ?_
  refine XA.sipush (v := J ((500 : Nat) : Int)) dX12_init_1080 (by decide) ?_
  refine XN.newI (N := 500) hC xac_int dX12_init_1083 (by decide) (by decide) (Nat.le_of_ble_eq_true rfl) (Nat.le_of_ble_eq_true rfl) (Nat.le_of_ble_eq_true rfl) (fun v41 h9 hC => ?_)
  refine XN.put hC (xp_X12_402 _) dX12_init_1085 (Nat.le_of_ble_eq_true rfl) (fun h9 hC => ?_)
  have hC : Cn h h9 b (xO 11 [.int 0, .int 0, .int 0, .ref v1, .ref v2, .int 0, .ref v3, .int 0, .ref v4, .int 0, .ref v5, .ref v6, .ref v7, .int 0, .ref v8, .int 0, .int 0, .ref v9, .ref v10, .ref v11, .int 0, .ref v12, .int 0, .ref v13, .ref v14, .ref v15, .ref v16, .ref v17, .ref v18, .int 0, .int 0, .int 0, .int 0, .ref v19, .ref v20, .ref v21, .int 0, .ref v22, .int 0, .ref v23, .ref v24, .ref v25, .ref v26, .ref v27, .int 0, .int 0, .int 0, .ref v28, .ref v29, .ref v30, .ref v31, .ref v32, .ref v33, .ref v34, .int 0, .ref v35, .ref v36, .int 0, .ref v37, .ref v38, .ref v39, .ref v40, .int 0, .int 0, .int 0, .int 0, .int 0, .ref v41, .null, .null, .null, .null, .null, .null, .null, .int 0, .int 0, .null, .null, .int 0, .null, .int 0, .null, .int 0, .null, .null]) _ := hC
  refine XA.aload_n dX12_init_1088 rfl ?_
  refine XA.sipush (v := J ((500 : Nat) : Int)) dX12_init_1089 (by decide) ?_
  refine XN.newI (N := 500) hC xac_int dX12_init_1092 (by decide) (by decide) (Nat.le_of_ble_eq_true rfl) (Nat.le_of_ble_eq_true rfl) (Nat.le_of_ble_eq_true rfl) (fun v42 h9 hC => ?_)
  refine XN.put hC (xp_X12_405 _) dX12_init_1094 (Nat.le_of_ble_eq_true rfl) (fun h9 hC => ?_)
  have hC : Cn h h9 b (xO 11 [.int 0, .int 0, .int 0, .ref v1, .ref v2, .int 0, .ref v3, .int 0, .ref v4, .int 0, .ref v5, .ref v6, .ref v7, .int 0, .ref v8, .int 0, .int 0, .ref v9, .ref v10, .ref v11, .int 0, .ref v12, .int 0, .ref v13, .ref v14, .ref v15, .ref v16, .ref v17, .ref v18, .int 0, .int 0, .int 0, .int 0, .ref v19, .ref v20, .ref v21, .int 0, .ref v22, .int 0, .ref v23, .ref v24, .ref v25, .ref v26, .ref v27, .int 0, .int 0, .int 0, .ref v28, .ref v29, .ref v30, .ref v31, .ref v32, .ref v33, .ref v34, .int 0, .ref v35, .ref v36, .int 0, .ref v37, .ref v38, .ref v39, .ref v40, .int 0, .int 0, .int 0, .int 0, .int 0, .ref v41, .ref v42, .null, .null, .null, .null, .null, .null, .int 0, .int 0, .null, .null, .int 0, .null, .int 0, .null, .int 0, .null, .null]) _ := hC
  refine XA.aload_n dX12_init_1097 rfl ?_
  refine XA.sipush (v := J ((500 : Nat) : Int)) dX12_init_1098 (by decide) ?_
  refine XN.newI (N := 500) hC xac_int dX12_init_1101 (by decide) (by decide) (Nat.le_of_ble_eq_true rfl) (Nat.le_of_ble_eq_true rfl) (Nat.le_of_ble_eq_true rfl) (fun v43 h9 hC => ?_)
  refine XN.put hC (xp_X12_408 _) dX12_init_1103 (Nat.le_of_ble_eq_true rfl) (fun h9 hC => ?_)
  have hC : Cn h h9 b (xO 11 [.int 0, .int 0, .int 0, .ref v1, .ref v2, .int 0, .ref v3, .int 0, .ref v4, .int 0, .ref v5, .ref v6, .ref v7, .int 0, .ref v8, .int 0, .int 0, .ref v9, .ref v10, .ref v11, .int 0, .ref v12, .int 0, .ref v13, .ref v14, .ref v15, .ref v16, .ref v17, .ref v18, .int 0, .int 0, .int 0, .int 0, .ref v19, .ref v20, .ref v21, .int 0, .ref v22, .int 0, .ref v23, .ref v24, .ref v25, .ref v26, .ref v27, .int 0, .int 0, .int 0, .ref v28, .ref v29, .ref v30, .ref v31, .ref v32, .ref v33, .ref v34, .int 0, .ref v35, .ref v36, .int 0, .ref v37, .ref v38, .ref v39, .ref v40, .int 0, .int 0, .int 0, .int 0, .int 0, .ref v41, .ref v42, .ref v43, .null, .null, .null, .null, .null, .int 0, .int 0, .null, .null, .int 0, .null, .int 0, .null, .int 0, .null, .null]) _ := hC
  refine XA.aload_n dX12_init_1106 rfl ?_
  refine XA.sipush (v := J ((500 : Nat) : Int)) dX12_init_1107 (by decide) ?_
  refine XN.newI (N := 500) hC xac_int dX12_init_1110 (by decide) (by decide) (Nat.le_of_ble_eq_true rfl) (Nat.le_of_ble_eq_true rfl) (Nat.le_of_ble_eq_true rfl) (fun v44 h9 hC => ?_)
  refine XN.put hC (xp_X12_411 _) dX12_init_1112 (Nat.le_of_ble_eq_true rfl) (fun h9 hC => ?_)
  have hC : Cn h h9 b (xO 11 [.int 0, .int 0, .int 0, .ref v1, .ref v2, .int 0, .ref v3, .int 0, .ref v4, .int 0, .ref v5, .ref v6, .ref v7, .int 0, .ref v8, .int 0, .int 0, .ref v9, .ref v10, .ref v11, .int 0, .ref v12, .int 0, .ref v13, .ref v14, .ref v15, .ref v16, .ref v17, .ref v18, .int 0, .int 0, .int 0, .int 0, .ref v19, .ref v20, .ref v21, .int 0, .ref v22, .int 0, .ref v23, .ref v24, .ref v25, .ref v26, .ref v27, .int 0, .int 0, .int 0, .ref v28, .ref v29, .ref v30, .ref v31, .ref v32, .ref v33, .ref v34, .int 0, .ref v35, .ref v36, .int 0, .ref v37, .ref v38, .ref v39, .ref v40, .int 0, .int 0, .int 0, .int 0, .int 0, .ref v41, .ref v42, .ref v43, .ref v44, .null, .null, .null, .null, .int 0, .int 0, .null, .null, .int 0, .null, .int 0, .null, .int 0, .null, .null]) _ := hC
  refine XA.aload_n dX12_init_1115 rfl ?_
  refine XA.sipush (v := J ((500 : Nat) : Int)) dX12_init_1116 (by decide) ?_
  refine XN.newI (N := 500) hC xac_int dX12_init_1119 (by decide) (by decide) (Nat.le_of_ble_eq_true rfl) (Nat.le_of_ble_eq_true rfl) (Nat.le_of_ble_eq_true rfl) (fun v45 h9 hC => ?_)
  refine XN.put hC (xp_X12_414 _) dX12_init_1121 (Nat.le_of_ble_eq_true rfl) (fun h9 hC => ?_)
  have hC : Cn h h9 b (xO 11 [.int 0, .int 0, .int 0, .ref v1, .ref v2, .int 0, .ref v3, .int 0, .ref v4, .int 0, .ref v5, .ref v6, .ref v7, .int 0, .ref v8, .int 0, .int 0, .ref v9, .ref v10, .ref v11, .int 0, .ref v12, .int 0, .ref v13, .ref v14, .ref v15, .ref v16, .ref v17, .ref v18, .int 0, .int 0, .int 0, .int 0, .ref v19, .ref v20, .ref v21, .int 0, .ref v22, .int 0, .ref v23, .ref v24, .ref v25, .ref v26, .ref v27, .int 0, .int 0, .int 0, .ref v28, .ref v29, .ref v30, .ref v31, .ref v32, .ref v33, .ref v34, .int 0, .ref v35, .ref v36, .int 0, .ref v37, .ref v38, .ref v39, .ref v40, .int 0, .int 0, .int 0, .int 0, .int 0, .ref v41, .ref v42, .ref v43, .ref v44, .ref v45, .null, .null, .null, .int 0, .int 0, .null, .null, .int 0, .null, .int 0, .null, .int 0, .null, .null]) _ := hC
  refine XA.aload_n dX12_init_1124 rfl ?_
  refine XA.sipush (v := J ((500 : Nat) : Int)) dX12_init_1125 (by decide) ?_
  refine XN.newI (N := 500) hC xac_int dX12_init_1128 (by decide) (by decide) (Nat.le_of_ble_eq_true rfl) (Nat.le_of_ble_eq_true rfl) (Nat.le_of_ble_eq_true rfl) (fun v46 h9 hC => ?_)
  refine XN.put hC (xp_X12_417 _) dX12_init_1130 (Nat.le_of_ble_eq_true rfl) (fun h9 hC => ?_)
  have hC : Cn h h9 b (xO 11 [.int 0, .int 0, .int 0, .ref v1, .ref v2, .int 0, .ref v3, .int 0, .ref v4, .int 0, .ref v5, .ref v6, .ref v7, .int 0, .ref v8, .int 0, .int 0, .ref v9, .ref v10, .ref v11, .int 0, .ref v12, .int 0, .ref v13, .ref v14, .ref v15, .ref v16, .ref v17, .ref v18, .int 0, .int 0, .int 0, .int 0, .ref v19, .ref v20, .ref v21, .int 0, .ref v22, .int 0, .ref v23, .ref v24, .ref v25, .ref v26, .ref v27, .int 0, .int 0, .int 0, .ref v28, .ref v29, .ref v30, .ref v31, .ref v32, .ref v33, .ref v34, .int 0, .ref v35, .ref v36, .int 0, .ref v37, .ref v38, .ref v39, .ref v40, .int 0, .int 0, .int 0, .int 0, .int 0, .ref v41, .ref v42, .ref v43, .ref v44, .ref v45, .ref v46, .null, .null, .int 0, .int 0, .null, .null, .int 0, .null, .int 0, .null, .int 0, .null, .null]) _ := hC
  refine XA.aload_n dX12_init_1133 rfl ?_
  refine XA.sipush (v := J ((500 : Nat) : Int)) dX12_init_1134 (by decide) ?_
  refine XN.newI (N := 500) hC xac_int dX12_init_1137 (by decide) (by decide) (Nat.le_of_ble_eq_true rfl) (Nat.le_of_ble_eq_true rfl) (Nat.le_of_ble_eq_true rfl) (fun v47 h9 hC => ?_)
  refine XN.put hC (xp_X12_420 _) dX12_init_1139 (Nat.le_of_ble_eq_true rfl) (fun h9 hC => ?_)
  have hC : Cn h h9 b (xO 11 [.int 0, .int 0, .int 0, .ref v1, .ref v2, .int 0, .ref v3, .int 0, .ref v4, .int 0, .ref v5, .ref v6, .ref v7, .int 0, .ref v8, .int 0, .int 0, .ref v9, .ref v10, .ref v11, .int 0, .ref v12, .int 0, .ref v13, .ref v14, .ref v15, .ref v16, .ref v17, .ref v18, .int 0, .int 0, .int 0, .int 0, .ref v19, .ref v20, .ref v21, .int 0, .ref v22, .int 0, .ref v23, .ref v24, .ref v25, .ref v26, .ref v27, .int 0, .int 0, .int 0, .ref v28, .ref v29, .ref v30, .ref v31, .ref v32, .ref v33, .ref v34, .int 0, .ref v35, .ref v36, .int 0, .ref v37, .ref v38, .ref v39, .ref v40, .int 0, .int 0, .int 0, .int 0, .int 0, .ref v41, .ref v42, .ref v43, .ref v44, .ref v45, .ref v46, .ref v47, .null, .int 0, .int 0, .null, .null, .int 0, .null, .int 0, .null, .int 0, .null, .null]) _ := hC
  refine XA.aload_n dX12_init_1142 rfl ?_
  refine XA.sipush (v := J ((500 : Nat) : Int)) dX12_init_1143 (by decide) ?_
  refine XN.newZ (N := 500) hC xac_boolean dX12_init_1146 (by decide) (by decide) (Nat.le_of_ble_eq_true rfl) (Nat.le_of_ble_eq_true rfl) (Nat.le_of_ble_eq_true rfl) (fun v48 h9 hC => ?_)
  refine XN.put hC (xp_X12_423 _) dX12_init_1148 (Nat.le_of_ble_eq_true rfl) (fun h9 hC => ?_)
  have hC : Cn h h9 b (xO 11 [.int 0, .int 0, .int 0, .ref v1, .ref v2, .int 0, .ref v3, .int 0, .ref v4, .int 0, .ref v5, .ref v6, .ref v7, .int 0, .ref v8, .int 0, .int 0, .ref v9, .ref v10, .ref v11, .int 0, .ref v12, .int 0, .ref v13, .ref v14, .ref v15, .ref v16, .ref v17, .ref v18, .int 0, .int 0, .int 0, .int 0, .ref v19, .ref v20, .ref v21, .int 0, .ref v22, .int 0, .ref v23, .ref v24, .ref v25, .ref v26, .ref v27, .int 0, .int 0, .int 0, .ref v28, .ref v29, .ref v30, .ref v31, .ref v32, .ref v33, .ref v34, .int 0, .ref v35, .ref v36, .int 0, .ref v37, .ref v38, .ref v39, .ref v40, .int 0, .int 0, .int 0, .int 0, .int 0, .ref v41, .ref v42, .ref v43, .ref v44, .ref v45, .ref v46, .ref v47, .ref v48, .int 0, .int 0, .null, .null, .int 0, .null, .int 0, .null, .int 0, .null, .null]) _ := hC
  refine XA.aload_n dX12_init_1151 rfl ?_
  refine XA.bipush (v := J ((16 : Nat) : Int)) dX12_init_1152 (by decide) ?_
  refine XN.newI (N := 16) hC xac_int dX12_init_1154 (by decide) (by decide) (Nat.le_of_ble_eq_true rfl) (Nat.le_of_ble_eq_true rfl) (Nat.le_of_ble_eq_true rfl) (fun v49 h9 hC => ?_)
  refine XN.put hC (xp_X12_426 _) dX12_init_1156 (Nat.le_of_ble_eq_true rfl) (fun h9 hC => ?_)
  have hC : Cn h h9 b (xO 11 [.int 0, .int 0, .int 0, .ref v1, .ref v2, .int 0, .ref v3, .int 0, .ref v4, .int 0, .ref v5, .ref v6, .ref v7, .int 0, .ref v8, .int 0, .int 0, .ref v9, .ref v10, .ref v11, .int 0, .ref v12, .int 0, .ref v13, .ref v14, .ref v15, .ref v16, .ref v17, .ref v18, .int 0, .int 0, .int 0, .int 0, .ref v19, .ref v20, .ref v21, .int 0, .ref v22, .int 0, .ref v23, .ref v24, .ref v25, .ref v26, .ref v27, .int 0, .int 0, .int 0, .ref v28, .ref v29, .ref v30, .ref v31, .ref v32, .ref v33, .ref v34, .int 0, .ref v35, .ref v36, .int 0, .ref v37, .ref v38, .ref v39, .ref v40, .int 0, .int 0, .int 0, .int 0, .int 0, .ref v41, .ref v42, .ref v43, .ref v44, .ref v45, .ref v46, .ref v47, .ref v48, .int 0, .int 0, .ref v49, .null, .int 0, .null, .int 0, .null, .int 0, .null, .null]) _ := hC
  refine XA.aload_n dX12_init_1159 rfl ?_
  refine XA.bipush (v := J ((16 : Nat) : Int)) dX12_init_1160 (by decide) ?_
  refine XN.newI (N := 16) hC xac_int dX12_init_1162 (by decide) (by decide) (Nat.le_of_ble_eq_true rfl) (Nat.le_of_ble_eq_true rfl) (Nat.le_of_ble_eq_true rfl) (fun v50 h9 hC => ?_)
  refine XN.put hC (xp_X12_429 _) dX12_init_1164 (Nat.le_of_ble_eq_true rfl) (fun h9 hC => ?_)
  have hC : Cn h h9 b (xO 11 [.int 0, .int 0, .int 0, .ref v1, .ref v2, .int 0, .ref v3, .int 0, .ref v4, .int 0, .ref v5, .ref v6, .ref v7, .int 0, .ref v8, .int 0, .int 0, .ref v9, .ref v10, .ref v11, .int 0, .ref v12, .int 0, .ref v13, .ref v14, .ref v15, .ref v16, .ref v17, .ref v18, .int 0, .int 0, .int 0, .int 0, .ref v19, .ref v20, .ref v21, .int 0, .ref v22, .int 0, .ref v23, .ref v24, .ref v25, .ref v26, .ref v27, .int 0, .int 0, .int 0, .ref v28, .ref v29, .ref v30, .ref v31, .ref v32, .ref v33, .ref v34, .int 0, .ref v35, .ref v36, .int 0, .ref v37, .ref v38, .ref v39, .ref v40, .int 0, .int 0, .int 0, .int 0, .int 0, .ref v41, .ref v42, .ref v43, .ref v44, .ref v45, .ref v46, .ref v47, .ref v48, .int 0, .int 0, .ref v49, .ref v50, .int 0, .null, .int 0, .null, .int 0, .null, .null]) _ := hC
  refine XA.aload_n dX12_init_1167 rfl ?_
  refine XA.ldcw (v := J ((220000 : Nat) : Int)) xc_X12_432 dX12_init_1168 ?_
  refine XN.newI (N := 220000) hC xac_int dX12_init_1171 (by decide) (by decide) (Nat.le_of_ble_eq_true rfl) (Nat.le_of_ble_eq_true rfl) (Nat.le_of_ble_eq_true rfl) (fun v51 h9 hC => ?_)
  refine XN.put hC (xp_X12_433 _) dX12_init_1173 (Nat.le_of_ble_eq_true rfl) (fun h9 hC => ?_)
  have hC : Cn h h9 b (xO 11 [.int 0, .int 0, .int 0, .ref v1, .ref v2, .int 0, .ref v3, .int 0, .ref v4, .int 0, .ref v5, .ref v6, .ref v7, .int 0, .ref v8, .int 0, .int 0, .ref v9, .ref v10, .ref v11, .int 0, .ref v12, .int 0, .ref v13, .ref v14, .ref v15, .ref v16, .ref v17, .ref v18, .int 0, .int 0, .int 0, .int 0, .ref v19, .ref v20, .ref v21, .int 0, .ref v22, .int 0, .ref v23, .ref v24, .ref v25, .ref v26, .ref v27, .int 0, .int 0, .int 0, .ref v28, .ref v29, .ref v30, .ref v31, .ref v32, .ref v33, .ref v34, .int 0, .ref v35, .ref v36, .int 0, .ref v37, .ref v38, .ref v39, .ref v40, .int 0, .int 0, .int 0, .int 0, .int 0, .ref v41, .ref v42, .ref v43, .ref v44, .ref v45, .ref v46, .ref v47, .ref v48, .int 0, .int 0, .ref v49, .ref v50, .int 0, .ref v51, .int 0, .null, .int 0, .null, .null]) _ := hC
  refine XA.aload_n dX12_init_1176 rfl ?_
  refine XA.sipush (v := J ((1000 : Nat) : Int)) dX12_init_1177 (by decide) ?_
  refine XN.newI (N := 1000) hC xac_int dX12_init_1180 (by decide) (by decide) (Nat.le_of_ble_eq_true rfl) (Nat.le_of_ble_eq_true rfl) (Nat.le_of_ble_eq_true rfl) (fun v52 h9 hC => ?_)
  refine XN.put hC (xp_X12_436 _) dX12_init_1182 (Nat.le_of_ble_eq_true rfl) (fun h9 hC => ?_)
  have hC : Cn h h9 b (xO 11 [.int 0, .int 0, .int 0, .ref v1, .ref v2, .int 0, .ref v3, .int 0, .ref v4, .int 0, .ref v5, .ref v6, .ref v7, .int 0, .ref v8, .int 0, .int 0, .ref v9, .ref v10, .ref v11, .int 0, .ref v12, .int 0, .ref v13, .ref v14, .ref v15, .ref v16, .ref v17, .ref v18, .int 0, .int 0, .int 0, .int 0, .ref v19, .ref v20, .ref v21, .int 0, .ref v22, .int 0, .ref v23, .ref v24, .ref v25, .ref v26, .ref v27, .int 0, .int 0, .int 0, .ref v28, .ref v29, .ref v30, .ref v31, .ref v32, .ref v33, .ref v34, .int 0, .ref v35, .ref v36, .int 0, .ref v37, .ref v38, .ref v39, .ref v40, .int 0, .int 0, .int 0, .int 0, .int 0, .ref v41, .ref v42, .ref v43, .ref v44, .ref v45, .ref v46, .ref v47, .ref v48, .int 0, .int 0, .ref v49, .ref v50, .int 0, .ref v51, .int 0, .ref v52, .int 0, .null, .null]) _ := hC
  refine XA.aload_n dX12_init_1185 rfl ?_
  refine XA.bipush (v := J ((8 : Nat) : Int)) dX12_init_1186 (by decide) ?_
  refine XN.newI (N := 8) hC xac_int dX12_init_1188 (by decide) (by decide) (Nat.le_of_ble_eq_true rfl) (Nat.le_of_ble_eq_true rfl) (Nat.le_of_ble_eq_true rfl) (fun v53 h9 hC => ?_)
  refine XN.put hC (xp_X12_439 _) dX12_init_1190 (Nat.le_of_ble_eq_true rfl) (fun h9 hC => ?_)
  have hC : Cn h h9 b (xO 11 [.int 0, .int 0, .int 0, .ref v1, .ref v2, .int 0, .ref v3, .int 0, .ref v4, .int 0, .ref v5, .ref v6, .ref v7, .int 0, .ref v8, .int 0, .int 0, .ref v9, .ref v10, .ref v11, .int 0, .ref v12, .int 0, .ref v13, .ref v14, .ref v15, .ref v16, .ref v17, .ref v18, .int 0, .int 0, .int 0, .int 0, .ref v19, .ref v20, .ref v21, .int 0, .ref v22, .int 0, .ref v23, .ref v24, .ref v25, .ref v26, .ref v27, .int 0, .int 0, .int 0, .ref v28, .ref v29, .ref v30, .ref v31, .ref v32, .ref v33, .ref v34, .int 0, .ref v35, .ref v36, .int 0, .ref v37, .ref v38, .ref v39, .ref v40, .int 0, .int 0, .int 0, .int 0, .int 0, .ref v41, .ref v42, .ref v43, .ref v44, .ref v45, .ref v46, .ref v47, .ref v48, .int 0, .int 0, .ref v49, .ref v50, .int 0, .ref v51, .int 0, .ref v52, .int 0, .ref v53, .null]) _ := hC
  refine XA.aload_n dX12_init_1193 rfl ?_
  refine XA.bipush (v := J ((8 : Nat) : Int)) dX12_init_1194 (by decide) ?_
  refine XN.newI (N := 8) hC xac_int dX12_init_1196 (by decide) (by decide) (Nat.le_of_ble_eq_true rfl) (Nat.le_of_ble_eq_true rfl) (Nat.le_of_ble_eq_true rfl) (fun v54 h9 hC => ?_)
  refine XN.put hC (xp_X12_442 _) dX12_init_1198 (Nat.le_of_ble_eq_true rfl) (fun h9 hC => ?_)
  have hC : Cn h h9 b (xO 11 [.int 0, .int 0, .int 0, .ref v1, .ref v2, .int 0, .ref v3, .int 0, .ref v4, .int 0, .ref v5, .ref v6, .ref v7, .int 0, .ref v8, .int 0, .int 0, .ref v9, .ref v10, .ref v11, .int 0, .ref v12, .int 0, .ref v13, .ref v14, .ref v15, .ref v16, .ref v17, .ref v18, .int 0, .int 0, .int 0, .int 0, .ref v19, .ref v20, .ref v21, .int 0, .ref v22, .int 0, .ref v23, .ref v24, .ref v25, .ref v26, .ref v27, .int 0, .int 0, .int 0, .ref v28, .ref v29, .ref v30, .ref v31, .ref v32, .ref v33, .ref v34, .int 0, .ref v35, .ref v36, .int 0, .ref v37, .ref v38, .ref v39, .ref v40, .int 0, .int 0, .int 0, .int 0, .int 0, .ref v41, .ref v42, .ref v43, .ref v44, .ref v45, .ref v46, .ref v47, .ref v48, .int 0, .int 0, .ref v49, .ref v50, .int 0, .ref v51, .int 0, .ref v52, .int 0, .ref v53, .ref v54]) _ := hC
  rw [xlp_all (g := gl_standard) (n := 81) (by decide), xlp_all (g := gl_ops) (n := 6) (by decide), xlp_all (g := gl_words) (n := 16) (by decide), xlp_all (g := gl_kinds) (n := 7) (by decide)] at hC
  simp only [List.nil_append, List.append_assoc, List.cons_append] at hC
  obtain ⟨L1, hG1, hL, hL5, hL0, hL1⟩ := gh_ref hG hR hbL hC
  have hk := g_X12_init (l := l) (Z := Z) (L := L1) (mc := 54) (ms := 896262) (nc := 54) (ns := 896262) (Nat.le_refl _) (Nat.le_refl _) n
  have hk := hk.1 hL0 d (gz S) x S1 H
  rw [hL5] at hk
  refine XA.mono (fun v h' hq => ?_) (fun E h' hq => ?_) (hk _ [(0, .ref b)] hG1 (fun i v hv => xlk_mem hv))
  · obtain ⟨S', h1, rfl, rfl⟩ := hq
    exact ⟨rfl, L1, h1, hL, hL5, hL0, hL1⟩
  · obtain ⟨S', h1, h3⟩ := hq
    exact h3
