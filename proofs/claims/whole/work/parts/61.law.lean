def P_L_law_23 (l : Launch) (Z : XZ) (L : Nat → Nat) (mc ms n : Nat) : Prop := ∀ (hL : L 700 = 1) (hO : L 701 = 1) (d : Nat) (S : GS) (a4 : Int) (x : Int) (S1 : GS), f_L_law Z.1.2.1 (fun k => (Z.1.2.2 k).toInt) n d 23 S [a4] = some (x, S1) → ∀ nc ns : Nat, (0 ≤ a4 ∧ a4 + 0 ≤ (Z.1.2.1 : Int) ∧ (nc : Int) + (Z.1.2.1 - a4) ≤ mc + 0 ∧ (ns : Int) + 6 * (Z.1.2.1 - a4) ≤ ms + 0) → GA l Z L yL_law cL_law 8 (some .boolean) [] d mc ms (fun v S' => v = some (.int (J x)) ∧ S1 = S') (fun _ _ => False) 23 (gl [(0, .ref Z.1.1), (1, .ref (L 468)), (2, .ref (L 500)), (3, .ref (L 600)), (4, .int (J a4))]) [] S nc ns
def P_L_law_2279 (l : Launch) (Z : XZ) (L : Nat → Nat) (mc ms n : Nat) : Prop := ∀ (hL : L 700 = 1) (hO : L 701 = 1) (d : Nat) (S : GS) (a4 : Int) (x : Int) (S1 : GS), f_L_law Z.1.2.1 (fun k => (Z.1.2.2 k).toInt) n d 2279 S [a4] = some (x, S1) → ∀ nc ns : Nat, (0 ≤ a4 ∧ a4 + 4 ≤ (Z.1.2.1 : Int) ∧ (nc : Int) + (Z.1.2.1 - a4) ≤ mc + 4 ∧ (ns : Int) + 6 * (Z.1.2.1 - a4) ≤ ms + 24) → GA l Z L yL_law cL_law 8 (some .boolean) [] d mc ms (fun v S' => v = some (.int (J x)) ∧ S1 = S') (fun _ _ => False) 2279 (gl [(0, .ref Z.1.1), (1, .ref (L 468)), (2, .ref (L 500)), (3, .ref (L 600)), (4, .int (J a4))]) [] S nc ns
set_option maxHeartbeats 16000000 in
set_option maxRecDepth 100000 in
theorem t_L_law_23 {l : Launch} {Z : XZ} {L : Nat → Nat} {mc ms : Nat} (n : Nat) (ih_23 : P_L_law_23 l Z L mc ms n) (ih_2279 : P_L_law_2279 l Z L mc ms n) : P_L_law_23 l Z L mc ms (n + 1) := by
  intro hL hO d S a4 x S1 H nc ns hB
  have H : b_L_law_23 Z.1.2.1 (fun k => (Z.1.2.2 k).toInt) n d (f_L_law Z.1.2.1 (fun k => (Z.1.2.2 k).toInt) n) S a4 = some (x, S1) := H
  unfold b_L_law_23 at H
  refine GA.iload dL_law_23 rfl ?_
  refine GA.aload_n dL_law_25 rfl ?_
  refine GV.slen dL_law_26 ?_
  refine GA.iconst dL_law_27 ?_
  obtain ⟨x1, hx2, H⟩ := gv_e H
  refine GV.isub hx2 dL_law_28 ?_
  obtain ⟨hg3, H⟩ := gg_e H
  obtain ⟨hg4, H⟩ := gg_e H
  refine GV.icmp_gt (tgt := 2285) hg3 hg4 dL_law_29 (by decide) (fun c5 => ?_) (fun c5 => ?_)
  · have H := it_t H c5
    refine GA.iconst dL_law_2285 ?_
    cases H
    exact GV.zret (by decide) rfl dL_law_2286 (by omega) (by omega) ⟨rfl, rfl⟩
  · have H := it_f H c5
    refine GA.aload_n dL_law_32 rfl ?_
    refine GA.iload dL_law_33 rfl ?_
    obtain ⟨hg6, H⟩ := gg_e H
    obtain ⟨x7, hx8, H⟩ := gv_e H
    refine GV.sld hg6 hx8 dL_law_35 ?_
    refine GA.bipush dL_law_36 rfl ?_
    obtain ⟨x9, hx10, H⟩ := gv_e H
    refine GV.iand63 hx10 dL_law_38 ?_
    obtain ⟨hg11, H⟩ := gg_e H
    by_cases c12 : x9 = 0
    · have H := it_t H c12
      refine GA.tableIn (tgt := 188) dL_law_39 hg11 (by omega) (by omega) (by rw [c12] <;> rfl) (by decide) ?_
      refine GA.aload_n dL_law_188 rfl ?_
      refine GA.aload_n dL_law_189 rfl ?_
      refine GA.iload dL_law_190 rfl ?_
      refine GA.iconst dL_law_192 ?_
      obtain ⟨x13, hx14, H⟩ := gv_e H
      refine GV.iadd hx14 dL_law_193 ?_
      obtain ⟨hg15, H⟩ := gg_e H
      obtain ⟨x16, hx17, H⟩ := gv_e H
      refine GV.sld hg15 hx17 dL_law_194 ?_
      refine GA.aload_n dL_law_195 rfl ?_
      refine GA.iload dL_law_196 rfl ?_
      refine GA.iconst dL_law_198 ?_
      obtain ⟨x18, hx19, H⟩ := gv_e H
      refine GV.iadd hx19 dL_law_199 ?_
      obtain ⟨hg20, H⟩ := gg_e H
      obtain ⟨x21, hx22, H⟩ := gv_e H
      refine GV.sld hg20 hx22 dL_law_200 ?_
      obtain ⟨hg23, H⟩ := gg_e H
      refine GV.i2l hg23 dL_law_201 ?_
      refine GA.bipush dL_law_202 rfl ?_
      obtain ⟨x24, hx25, H⟩ := gv_e H
      refine GV.lshl32 hx25 dL_law_204 ?_
      refine GA.aload_n dL_law_205 rfl ?_
      refine GA.iload dL_law_206 rfl ?_
      refine GA.iconst dL_law_208 ?_
      obtain ⟨x26, hx27, H⟩ := gv_e H
      refine GV.iadd hx27 dL_law_209 ?_
      obtain ⟨hg28, H⟩ := gg_e H
      obtain ⟨x29, hx30, H⟩ := gv_e H
      refine GV.sld hg28 hx30 dL_law_210 ?_
      obtain ⟨hg31, H⟩ := gg_e H
      refine GV.i2l hg31 dL_law_211 ?_
      refine GV.ldc2 (z := 4294967295) (by decide) xc_L_123 dL_law_212 ?_
      obtain ⟨x32, hx33, H⟩ := gv_e H
      refine GV.land32 hx33 dL_law_215 ?_
      obtain ⟨hg34, H⟩ := gg_e H
      obtain ⟨x35, hx36, H⟩ := gv_e H
      refine GV.lor32 hg34 hx36 dL_law_216 ?_
      refine GA.aload_n dL_law_217 rfl ?_
      obtain ⟨hg37, H⟩ := gg_e H
      obtain ⟨x38, S_39, hc40, H⟩ := gc_e H
      refine GA.callW (m_L_write hO hc40) xs_L_125 dL_law_218 rfl (by omega) (by decide) rfl (Nat.le_of_ble_eq_true rfl) (by omega) (by omega) (fun E S9 hx => hx) (fun v S9 hq => ?_)
      obtain ⟨rfl, rfl⟩ := hq
      refine GA.istore dL_law_221 (by decide) ?_
      refine GA.aload_n dL_law_223 rfl ?_
      refine GA.aload_n dL_law_224 rfl ?_
      refine GA.iload dL_law_225 rfl ?_
      refine GA.iconst dL_law_227 ?_
      obtain ⟨x41, hx42, H⟩ := gv_e H
      refine GV.iadd hx42 dL_law_228 ?_
      obtain ⟨hg43, H⟩ := gg_e H
      obtain ⟨x44, hx45, H⟩ := gv_e H
      refine GV.sld hg43 hx45 dL_law_229 ?_
      refine GA.aload_n dL_law_230 rfl ?_
      refine GA.iload dL_law_231 rfl ?_
      refine GA.iconst dL_law_233 ?_
      obtain ⟨x46, hx47, H⟩ := gv_e H
      refine GV.iadd hx47 dL_law_234 ?_
      obtain ⟨hg48, H⟩ := gg_e H
      obtain ⟨x49, hx50, H⟩ := gv_e H
      refine GV.sld hg48 hx50 dL_law_235 ?_
      obtain ⟨hg51, H⟩ := gg_e H
      refine GV.i2l hg51 dL_law_236 ?_
      refine GA.bipush dL_law_237 rfl ?_
      obtain ⟨x52, hx53, H⟩ := gv_e H
      refine GV.lshl32 hx53 dL_law_239 ?_
      refine GA.aload_n dL_law_240 rfl ?_
      refine GA.iload dL_law_241 rfl ?_
      refine GA.iconst dL_law_243 ?_
      obtain ⟨x54, hx55, H⟩ := gv_e H
      refine GV.iadd hx55 dL_law_244 ?_
      obtain ⟨hg56, H⟩ := gg_e H
      obtain ⟨x57, hx58, H⟩ := gv_e H
      refine GV.sld hg56 hx58 dL_law_245 ?_
      obtain ⟨hg59, H⟩ := gg_e H
      refine GV.i2l hg59 dL_law_246 ?_
      refine GV.ldc2 (z := 4294967295) (by decide) xc_L_123 dL_law_247 ?_
      obtain ⟨x60, hx61, H⟩ := gv_e H
      refine GV.land32 hx61 dL_law_250 ?_
      obtain ⟨hg62, H⟩ := gg_e H
      obtain ⟨x63, hx64, H⟩ := gv_e H
      refine GV.lor32 hg62 hx64 dL_law_251 ?_
      obtain ⟨x65, S_66, hc67, H⟩ := gc_e H
      refine GA.callV (m_X12_write hL hc67) xs_L_130 dL_law_252 (gs_500 hL) (by decide) rfl rfl (by omega) (by decide) rfl (Nat.le_of_ble_eq_true rfl) (by omega) (by omega) rfl (fun E S9 hx => hx.elim) (fun v S9 hq => ?_)
      obtain ⟨rfl, rfl⟩ := hq
      refine GA.istore dL_law_255 (by decide) ?_
      refine GA.aload_n dL_law_257 rfl ?_
      obtain ⟨x68, S_69, hc70, H⟩ := gc_e H
      refine GA.callV (m_X12_thrown hL hc70) xs_L_131 dL_law_258 (gs_500 hL) (by decide) rfl rfl (by omega) (by decide) rfl (Nat.le_of_ble_eq_true rfl) (by omega) (by omega) rfl (fun E S9 hx => hx.elim) (fun v S9 hq => ?_)
      obtain ⟨rfl, rfl⟩ := hq
      refine GA.iload dL_law_261 rfl ?_
      obtain ⟨hg71, H⟩ := gg_e H
      obtain ⟨hg72, H⟩ := gg_e H
      refine GV.icmp_eq (tgt := 268) hg71 hg72 dL_law_263 (by decide) (fun c73 => ?_) (fun c73 => ?_)
      · have H := it_t H c73
        refine GA.iload dL_law_268 rfl ?_
        refine GV.if_ne (tgt := 285) hg72 dL_law_270 (by decide) (fun c74 => ?_) (fun c74 => ?_)
        · have H := it_t H c74
          refine GA.goto (tgt := 2279) dL_law_285 (by decide) ?_
          refine GA.locals [(0, .ref Z.1.1), (1, .ref (L 468)), (2, .ref (L 500)), (3, .ref (L 600)), (4, .int (J a4))] ⟨rfl, rfl, rfl, rfl, rfl, trivial⟩ ?_
          exact ih_2279 hL hO _ _ (a4) _ _ H _ _ (by omega)
        · have H := it_f H c74
          refine GA.aload_n dL_law_273 rfl ?_
          refine GA.iconst dL_law_274 ?_
          obtain ⟨x75, hx76, H⟩ := gv_e H
          refine GV.laldO hO hx76 dL_law_275 ?_
          refine GA.iload dL_law_276 rfl ?_
          obtain ⟨hg77, H⟩ := gg_e H
          refine GV.i2l hg77 dL_law_278 ?_
          obtain ⟨hg78, H⟩ := gg_e H
          obtain ⟨hg79, H⟩ := gg_e H
          obtain ⟨x80, hx81, H⟩ := gv_e H
          refine GV.lcmp hg78 hg79 hx81 dL_law_279 ?_
          obtain ⟨hg82, H⟩ := gg_e H
          refine GV.if_eq (tgt := 285) hg82 dL_law_280 (by decide) (fun c83 => ?_) (fun c83 => ?_)
          · have H := it_t H c83
            refine GA.goto (tgt := 2279) dL_law_285 (by decide) ?_
            refine GA.locals [(0, .ref Z.1.1), (1, .ref (L 468)), (2, .ref (L 500)), (3, .ref (L 600)), (4, .int (J a4))] ⟨rfl, rfl, rfl, rfl, rfl, trivial⟩ ?_
            exact ih_2279 hL hO _ _ (a4) _ _ H _ _ (by omega)
          · have H := it_f H c83
            refine GA.iconst dL_law_283 ?_
            cases H
            exact GV.zret (by decide) rfl dL_law_284 (by omega) (by omega) ⟨rfl, rfl⟩
      · have H := it_f H c73
        refine GA.iconst dL_law_266 ?_
        cases H
        exact GV.zret (by decide) rfl dL_law_267 (by omega) (by omega) ⟨rfl, rfl⟩
    have H := it_f H c12
    by_cases c84 : x9 = 1
    · have H := it_t H c84
      refine GA.tableIn (tgt := 288) dL_law_39 hg11 (by omega) (by omega) (by rw [c84] <;> rfl) (by decide) ?_
      refine GA.aload_n dL_law_288 rfl ?_
      obtain ⟨hg85, H⟩ := gg_e H
      obtain ⟨x86, S_87, hc88, H⟩ := gc_e H
      refine GA.callV (m_X11_wipe hc88) xs_L_134 dL_law_289 gs_468 (by decide) rfl rfl (by omega) (by decide) rfl (Nat.le_of_ble_eq_true rfl) (by omega) (by omega) rfl (fun E S9 hx => hx.elim) (fun v S9 hq => ?_)
      obtain ⟨rfl, rfl⟩ := hq
      refine GA.aload_n dL_law_292 rfl ?_
      obtain ⟨x89, S_90, hc91, H⟩ := gc_e H
      refine GA.callV (m_X12_wipe hL hc91) xs_L_137 dL_law_293 (gs_500 hL) (by decide) rfl rfl (by omega) (by decide) rfl (Nat.le_of_ble_eq_true rfl) (by omega) (by omega) rfl (fun E S9 hx => hx.elim) (fun v S9 hq => ?_)
      obtain ⟨rfl, rfl⟩ := hq
      obtain ⟨hg92, H⟩ := gg_e H
      obtain ⟨hg93, H⟩ := gg_e H
      refine GV.icmp_eq (tgt := 2279) hg92 hg93 dL_law_296 (by decide) (fun c94 => ?_) (fun c94 => ?_)
      · have H := it_t H c94
        refine GA.locals [(0, .ref Z.1.1), (1, .ref (L 468)), (2, .ref (L 500)), (3, .ref (L 600)), (4, .int (J a4))] ⟨rfl, rfl, rfl, rfl, rfl, trivial⟩ ?_
        exact ih_2279 hL hO _ _ (a4) _ _ H _ _ (by omega)
      · have H := it_f H c94
        refine GA.iconst dL_law_299 ?_
        cases H
        exact GV.zret (by decide) rfl dL_law_300 (by omega) (by omega) ⟨rfl, rfl⟩
    have H := it_f H c84
    by_cases c95 : x9 = 2
    · have H := it_t H c95
      refine GA.tableIn (tgt := 301) dL_law_39 hg11 (by omega) (by omega) (by rw [c95] <;> rfl) (by decide) ?_
      refine GA.aload_n dL_law_301 rfl ?_
      refine GA.aload_n dL_law_302 rfl ?_
      refine GA.iload dL_law_303 rfl ?_
      refine GA.iconst dL_law_305 ?_
      obtain ⟨x96, hx97, H⟩ := gv_e H
      refine GV.iadd hx97 dL_law_306 ?_
      obtain ⟨hg98, H⟩ := gg_e H
      obtain ⟨x99, hx100, H⟩ := gv_e H
      refine GV.sld hg98 hx100 dL_law_307 ?_
      refine GA.aload_n dL_law_308 rfl ?_
      refine GA.iload dL_law_309 rfl ?_
      refine GA.iconst dL_law_311 ?_
      obtain ⟨x101, hx102, H⟩ := gv_e H
      refine GV.iadd hx102 dL_law_312 ?_
      obtain ⟨hg103, H⟩ := gg_e H
      obtain ⟨x104, hx105, H⟩ := gv_e H
      refine GV.sld hg103 hx105 dL_law_313 ?_
      refine GA.aload_n dL_law_314 rfl ?_
      obtain ⟨hg106, H⟩ := gg_e H
      obtain ⟨x107, S_108, hc109, H⟩ := gc_e H
      refine GA.callW (m_L_paper hO hc109) xs_L_138 dL_law_315 rfl (by omega) (by decide) rfl (Nat.le_of_ble_eq_true rfl) (by omega) (by omega) (fun E S9 hx => hx) (fun v S9 hq => ?_)
      obtain ⟨rfl, rfl⟩ := hq
      refine GA.istore dL_law_318 (by decide) ?_
      refine GA.aload_n dL_law_320 rfl ?_
      refine GA.aload_n dL_law_321 rfl ?_
      refine GA.iload dL_law_322 rfl ?_
      refine GA.iconst dL_law_324 ?_
      obtain ⟨x110, hx111, H⟩ := gv_e H
      refine GV.iadd hx111 dL_law_325 ?_
      obtain ⟨hg112, H⟩ := gg_e H
      obtain ⟨x113, hx114, H⟩ := gv_e H
      refine GV.sld hg112 hx114 dL_law_326 ?_
      refine GA.aload_n dL_law_327 rfl ?_
      refine GA.iload dL_law_328 rfl ?_
      refine GA.iconst dL_law_330 ?_
      obtain ⟨x115, hx116, H⟩ := gv_e H
      refine GV.iadd hx116 dL_law_331 ?_
      obtain ⟨hg117, H⟩ := gg_e H
      obtain ⟨x118, hx119, H⟩ := gv_e H
      refine GV.sld hg117 hx119 dL_law_332 ?_
      obtain ⟨x120, S_121, hc122, H⟩ := gc_e H
      refine GA.callV (m_X12_paper hL hc122) xs_L_141 dL_law_333 (gs_500 hL) (by decide) rfl rfl (by omega) (by decide) rfl (Nat.le_of_ble_eq_true rfl) (by omega) (by omega) rfl (fun E S9 hx => hx.elim) (fun v S9 hq => ?_)
      obtain ⟨rfl, rfl⟩ := hq
      refine GA.lstore dL_law_336 (by decide) ?_
      refine GA.aload_n dL_law_338 rfl ?_
      obtain ⟨x123, S_124, hc125, H⟩ := gc_e H
      refine GA.callV (m_X12_thrown hL hc125) xs_L_131 dL_law_339 (gs_500 hL) (by decide) rfl rfl (by omega) (by decide) rfl (Nat.le_of_ble_eq_true rfl) (by omega) (by omega) rfl (fun E S9 hx => hx.elim) (fun v S9 hq => ?_)
      obtain ⟨rfl, rfl⟩ := hq
      refine GA.iload dL_law_342 rfl ?_
      obtain ⟨hg126, H⟩ := gg_e H
      obtain ⟨hg127, H⟩ := gg_e H
      refine GV.icmp_eq (tgt := 349) hg126 hg127 dL_law_344 (by decide) (fun c128 => ?_) (fun c128 => ?_)
      · have H := it_t H c128
        refine GA.iload dL_law_349 rfl ?_
        refine GV.if_ne (tgt := 365) hg127 dL_law_351 (by decide) (fun c129 => ?_) (fun c129 => ?_)
        · have H := it_t H c129
          refine GA.goto (tgt := 2279) dL_law_365 (by decide) ?_
          refine GA.locals [(0, .ref Z.1.1), (1, .ref (L 468)), (2, .ref (L 500)), (3, .ref (L 600)), (4, .int (J a4))] ⟨rfl, rfl, rfl, rfl, rfl, trivial⟩ ?_
          exact ih_2279 hL hO _ _ (a4) _ _ H _ _ (by omega)
        · have H := it_f H c129
          refine GA.aload_n dL_law_354 rfl ?_
          refine GA.iconst dL_law_355 ?_
          obtain ⟨x130, hx131, H⟩ := gv_e H
          refine GV.laldO hO hx131 dL_law_356 ?_
          refine GA.lload dL_law_357 rfl ?_
          obtain ⟨hg132, H⟩ := gg_e H
          obtain ⟨hg133, H⟩ := gg_e H
          obtain ⟨x134, hx135, H⟩ := gv_e H
          refine GV.lcmp hg132 hg133 hx135 dL_law_359 ?_
          obtain ⟨hg136, H⟩ := gg_e H
          refine GV.if_eq (tgt := 365) hg136 dL_law_360 (by decide) (fun c137 => ?_) (fun c137 => ?_)
          · have H := it_t H c137
            refine GA.goto (tgt := 2279) dL_law_365 (by decide) ?_
            refine GA.locals [(0, .ref Z.1.1), (1, .ref (L 468)), (2, .ref (L 500)), (3, .ref (L 600)), (4, .int (J a4))] ⟨rfl, rfl, rfl, rfl, rfl, trivial⟩ ?_
            exact ih_2279 hL hO _ _ (a4) _ _ H _ _ (by omega)
          · have H := it_f H c137
            refine GA.iconst dL_law_363 ?_
            cases H
            exact GV.zret (by decide) rfl dL_law_364 (by omega) (by omega) ⟨rfl, rfl⟩
      · have H := it_f H c128
        refine GA.iconst dL_law_347 ?_
        cases H
        exact GV.zret (by decide) rfl dL_law_348 (by omega) (by omega) ⟨rfl, rfl⟩
    have H := it_f H c95
    by_cases c138 : x9 = 3
    · have H := it_t H c138
      refine GA.tableIn (tgt := 368) dL_law_39 hg11 (by omega) (by omega) (by rw [c138] <;> rfl) (by decide) ?_
      refine GA.aload_n dL_law_368 rfl ?_
      refine GA.aload_n dL_law_369 rfl ?_
      refine GA.iload dL_law_370 rfl ?_
      refine GA.iconst dL_law_372 ?_
      obtain ⟨x139, hx140, H⟩ := gv_e H
      refine GV.iadd hx140 dL_law_373 ?_
      obtain ⟨hg141, H⟩ := gg_e H
      obtain ⟨x142, hx143, H⟩ := gv_e H
      refine GV.sld hg141 hx143 dL_law_374 ?_
      refine GA.aload_n dL_law_375 rfl ?_
      obtain ⟨hg144, H⟩ := gg_e H
      obtain ⟨x145, S_146, hc147, H⟩ := gc_e H
      refine GA.callW (m_L_rule hO hc147) xs_L_142 dL_law_376 rfl (by omega) (by decide) rfl (Nat.le_of_ble_eq_true rfl) (by omega) (by omega) (fun E S9 hx => hx) (fun v S9 hq => ?_)
      obtain ⟨rfl, rfl⟩ := hq
      refine GA.istore dL_law_379 (by decide) ?_
      refine GA.aload_n dL_law_381 rfl ?_
      refine GA.aload_n dL_law_382 rfl ?_
      refine GA.iload dL_law_383 rfl ?_
      refine GA.iconst dL_law_385 ?_
      obtain ⟨x148, hx149, H⟩ := gv_e H
      refine GV.iadd hx149 dL_law_386 ?_
      obtain ⟨hg150, H⟩ := gg_e H
      obtain ⟨x151, hx152, H⟩ := gv_e H
      refine GV.sld hg150 hx152 dL_law_387 ?_
      obtain ⟨x153, S_154, hc155, H⟩ := gc_e H
      refine GA.callV (m_X12_rule hL hc155) xs_L_145 dL_law_388 (gs_500 hL) (by decide) rfl rfl (by omega) (by decide) rfl (Nat.le_of_ble_eq_true rfl) (by omega) (by omega) rfl (fun E S9 hx => hx.elim) (fun v S9 hq => ?_)
      obtain ⟨rfl, rfl⟩ := hq
      refine GA.istore dL_law_391 (by decide) ?_
      refine GA.aload_n dL_law_393 rfl ?_
      obtain ⟨x156, S_157, hc158, H⟩ := gc_e H
      refine GA.callV (m_X12_thrown hL hc158) xs_L_131 dL_law_394 (gs_500 hL) (by decide) rfl rfl (by omega) (by decide) rfl (Nat.le_of_ble_eq_true rfl) (by omega) (by omega) rfl (fun E S9 hx => hx.elim) (fun v S9 hq => ?_)
      obtain ⟨rfl, rfl⟩ := hq
      refine GA.iload dL_law_397 rfl ?_
      obtain ⟨hg159, H⟩ := gg_e H
      obtain ⟨hg160, H⟩ := gg_e H
      refine GV.icmp_eq (tgt := 404) hg159 hg160 dL_law_399 (by decide) (fun c161 => ?_) (fun c161 => ?_)
      · have H := it_t H c161
        refine GA.iload dL_law_404 rfl ?_
        refine GV.if_ne (tgt := 421) hg160 dL_law_406 (by decide) (fun c162 => ?_) (fun c162 => ?_)
        · have H := it_t H c162
          refine GA.goto (tgt := 2279) dL_law_421 (by decide) ?_
          refine GA.locals [(0, .ref Z.1.1), (1, .ref (L 468)), (2, .ref (L 500)), (3, .ref (L 600)), (4, .int (J a4))] ⟨rfl, rfl, rfl, rfl, rfl, trivial⟩ ?_
          exact ih_2279 hL hO _ _ (a4) _ _ H _ _ (by omega)
        · have H := it_f H c162
          refine GA.aload_n dL_law_409 rfl ?_
          refine GA.iconst dL_law_410 ?_
          obtain ⟨x163, hx164, H⟩ := gv_e H
          refine GV.laldO hO hx164 dL_law_411 ?_
          refine GA.iload dL_law_412 rfl ?_
          obtain ⟨hg165, H⟩ := gg_e H
          refine GV.i2l hg165 dL_law_414 ?_
          obtain ⟨hg166, H⟩ := gg_e H
          obtain ⟨hg167, H⟩ := gg_e H
          obtain ⟨x168, hx169, H⟩ := gv_e H
          refine GV.lcmp hg166 hg167 hx169 dL_law_415 ?_
          obtain ⟨hg170, H⟩ := gg_e H
          refine GV.if_eq (tgt := 421) hg170 dL_law_416 (by decide) (fun c171 => ?_) (fun c171 => ?_)
          · have H := it_t H c171
            refine GA.goto (tgt := 2279) dL_law_421 (by decide) ?_
            refine GA.locals [(0, .ref Z.1.1), (1, .ref (L 468)), (2, .ref (L 500)), (3, .ref (L 600)), (4, .int (J a4))] ⟨rfl, rfl, rfl, rfl, rfl, trivial⟩ ?_
            exact ih_2279 hL hO _ _ (a4) _ _ H _ _ (by omega)
          · have H := it_f H c171
            refine GA.iconst dL_law_419 ?_
            cases H
            exact GV.zret (by decide) rfl dL_law_420 (by omega) (by omega) ⟨rfl, rfl⟩
      · have H := it_f H c161
        refine GA.iconst dL_law_402 ?_
        cases H
        exact GV.zret (by decide) rfl dL_law_403 (by omega) (by omega) ⟨rfl, rfl⟩
    have H := it_f H c138
    by_cases c172 : x9 = 4
    · have H := it_t H c172
      refine GA.tableIn (tgt := 424) dL_law_39 hg11 (by omega) (by omega) (by rw [c172] <;> rfl) (by decide) ?_
      refine GA.aload_n dL_law_424 rfl ?_
      refine GA.aload_n dL_law_425 rfl ?_
      obtain ⟨hg173, H⟩ := gg_e H
      obtain ⟨x174, S_175, hc176, H⟩ := gc_e H
      refine GA.callW (m_L_read hO hc176) xs_L_146 dL_law_426 rfl (by omega) (by decide) rfl (Nat.le_of_ble_eq_true rfl) (by omega) (by omega) (fun E S9 hx => hx) (fun v S9 hq => ?_)
      obtain ⟨rfl, rfl⟩ := hq
      refine GA.istore dL_law_429 (by decide) ?_
      refine GA.aload_n dL_law_431 rfl ?_
      obtain ⟨x177, S_178, hc179, H⟩ := gc_e H
      refine GA.callV (m_X12_read hL hc179) xs_L_149 dL_law_432 (gs_500 hL) (by decide) rfl rfl (by omega) (by decide) rfl (Nat.le_of_ble_eq_true rfl) (by omega) (by omega) rfl (fun E S9 hx => hx.elim) (fun v S9 hq => ?_)
      obtain ⟨rfl, rfl⟩ := hq
      refine GA.istore dL_law_435 (by decide) ?_
      refine GA.aload_n dL_law_437 rfl ?_
      obtain ⟨x180, S_181, hc182, H⟩ := gc_e H
      refine GA.callV (m_X12_thrown hL hc182) xs_L_131 dL_law_438 (gs_500 hL) (by decide) rfl rfl (by omega) (by decide) rfl (Nat.le_of_ble_eq_true rfl) (by omega) (by omega) rfl (fun E S9 hx => hx.elim) (fun v S9 hq => ?_)
      obtain ⟨rfl, rfl⟩ := hq
      refine GA.iload dL_law_441 rfl ?_
      obtain ⟨hg183, H⟩ := gg_e H
      obtain ⟨hg184, H⟩ := gg_e H
      refine GV.icmp_eq (tgt := 448) hg183 hg184 dL_law_443 (by decide) (fun c185 => ?_) (fun c185 => ?_)
      · have H := it_t H c185
        refine GA.iload dL_law_448 rfl ?_
        refine GV.if_ne (tgt := 465) hg184 dL_law_450 (by decide) (fun c186 => ?_) (fun c186 => ?_)
        · have H := it_t H c186
          refine GA.goto (tgt := 2279) dL_law_465 (by decide) ?_
          refine GA.locals [(0, .ref Z.1.1), (1, .ref (L 468)), (2, .ref (L 500)), (3, .ref (L 600)), (4, .int (J a4))] ⟨rfl, rfl, rfl, rfl, rfl, trivial⟩ ?_
          exact ih_2279 hL hO _ _ (a4) _ _ H _ _ (by omega)
        · have H := it_f H c186
          refine GA.aload_n dL_law_453 rfl ?_
          refine GA.iconst dL_law_454 ?_
          obtain ⟨x187, hx188, H⟩ := gv_e H
          refine GV.laldO hO hx188 dL_law_455 ?_
          refine GA.iload dL_law_456 rfl ?_
          obtain ⟨hg189, H⟩ := gg_e H
          refine GV.i2l hg189 dL_law_458 ?_
          obtain ⟨hg190, H⟩ := gg_e H
          obtain ⟨hg191, H⟩ := gg_e H
          obtain ⟨x192, hx193, H⟩ := gv_e H
          refine GV.lcmp hg190 hg191 hx193 dL_law_459 ?_
          obtain ⟨hg194, H⟩ := gg_e H
          refine GV.if_eq (tgt := 465) hg194 dL_law_460 (by decide) (fun c195 => ?_) (fun c195 => ?_)
          · have H := it_t H c195
            refine GA.goto (tgt := 2279) dL_law_465 (by decide) ?_
            refine GA.locals [(0, .ref Z.1.1), (1, .ref (L 468)), (2, .ref (L 500)), (3, .ref (L 600)), (4, .int (J a4))] ⟨rfl, rfl, rfl, rfl, rfl, trivial⟩ ?_
            exact ih_2279 hL hO _ _ (a4) _ _ H _ _ (by omega)
          · have H := it_f H c195
            refine GA.iconst dL_law_463 ?_
            cases H
            exact GV.zret (by decide) rfl dL_law_464 (by omega) (by omega) ⟨rfl, rfl⟩
      · have H := it_f H c185
        refine GA.iconst dL_law_446 ?_
        cases H
        exact GV.zret (by decide) rfl dL_law_447 (by omega) (by omega) ⟨rfl, rfl⟩
    have H := it_f H c172
    by_cases c196 : x9 = 5
    · have H := it_t H c196
      refine GA.tableIn (tgt := 468) dL_law_39 hg11 (by omega) (by omega) (by rw [c196] <;> rfl) (by decide) ?_
      refine GA.aload_n dL_law_468 rfl ?_
      refine GA.aload_n dL_law_469 rfl ?_
      refine GA.iload dL_law_470 rfl ?_
      refine GA.iconst dL_law_472 ?_
      obtain ⟨x197, hx198, H⟩ := gv_e H
      refine GV.iadd hx198 dL_law_473 ?_
      obtain ⟨hg199, H⟩ := gg_e H
      obtain ⟨x200, hx201, H⟩ := gv_e H
      refine GV.sld hg199 hx201 dL_law_474 ?_
      refine GA.aload_n dL_law_475 rfl ?_
      refine GA.iload dL_law_476 rfl ?_
      refine GA.iconst dL_law_478 ?_
      obtain ⟨x202, hx203, H⟩ := gv_e H
      refine GV.iadd hx203 dL_law_479 ?_
      obtain ⟨hg204, H⟩ := gg_e H
      obtain ⟨x205, hx206, H⟩ := gv_e H
      refine GV.sld hg204 hx206 dL_law_480 ?_
      refine GA.aload_n dL_law_481 rfl ?_
      obtain ⟨hg207, H⟩ := gg_e H
      obtain ⟨x208, S_209, hc210, H⟩ := gc_e H
      refine GA.callW (m_L_print hO hc210) xs_L_150 dL_law_482 rfl (by omega) (by decide) rfl (Nat.le_of_ble_eq_true rfl) (by omega) (by omega) (fun E S9 hx => hx) (fun v S9 hq => ?_)
      obtain ⟨rfl, rfl⟩ := hq
      refine GA.istore dL_law_485 (by decide) ?_
      refine GA.aload_n dL_law_487 rfl ?_
      refine GA.aload_n dL_law_488 rfl ?_
      refine GA.iload dL_law_489 rfl ?_
      refine GA.iconst dL_law_491 ?_
      obtain ⟨x211, hx212, H⟩ := gv_e H
      refine GV.iadd hx212 dL_law_492 ?_
      obtain ⟨hg213, H⟩ := gg_e H
      obtain ⟨x214, hx215, H⟩ := gv_e H
      refine GV.sld hg213 hx215 dL_law_493 ?_
      refine GA.aload_n dL_law_494 rfl ?_
      refine GA.iload dL_law_495 rfl ?_
      refine GA.iconst dL_law_497 ?_
      obtain ⟨x216, hx217, H⟩ := gv_e H
      refine GV.iadd hx217 dL_law_498 ?_
      obtain ⟨hg218, H⟩ := gg_e H
      obtain ⟨x219, hx220, H⟩ := gv_e H
      refine GV.sld hg218 hx220 dL_law_499 ?_
      obtain ⟨x221, S_222, hc223, H⟩ := gc_e H
      refine GA.callV (m_X12_print hL hc223) xs_L_152 dL_law_500 (gs_500 hL) (by decide) rfl rfl (by omega) (by decide) rfl (Nat.le_of_ble_eq_true rfl) (by omega) (by omega) rfl (fun E S9 hx => hx.elim) (fun v S9 hq => ?_)
      obtain ⟨rfl, rfl⟩ := hq
      refine GA.istore dL_law_503 (by decide) ?_
      refine GA.aload_n dL_law_505 rfl ?_
      obtain ⟨x224, S_225, hc226, H⟩ := gc_e H
      refine GA.callV (m_X12_thrown hL hc226) xs_L_131 dL_law_506 (gs_500 hL) (by decide) rfl rfl (by omega) (by decide) rfl (Nat.le_of_ble_eq_true rfl) (by omega) (by omega) rfl (fun E S9 hx => hx.elim) (fun v S9 hq => ?_)
      obtain ⟨rfl, rfl⟩ := hq
      refine GA.iload dL_law_509 rfl ?_
      obtain ⟨hg227, H⟩ := gg_e H
      obtain ⟨hg228, H⟩ := gg_e H
      refine GV.icmp_eq (tgt := 516) hg227 hg228 dL_law_511 (by decide) (fun c229 => ?_) (fun c229 => ?_)
      · have H := it_t H c229
        refine GA.iload dL_law_516 rfl ?_
        refine GV.if_ne (tgt := 533) hg228 dL_law_518 (by decide) (fun c230 => ?_) (fun c230 => ?_)
        · have H := it_t H c230
          refine GA.goto (tgt := 2279) dL_law_533 (by decide) ?_
          refine GA.locals [(0, .ref Z.1.1), (1, .ref (L 468)), (2, .ref (L 500)), (3, .ref (L 600)), (4, .int (J a4))] ⟨rfl, rfl, rfl, rfl, rfl, trivial⟩ ?_
          exact ih_2279 hL hO _ _ (a4) _ _ H _ _ (by omega)
        · have H := it_f H c230
          refine GA.aload_n dL_law_521 rfl ?_
          refine GA.iconst dL_law_522 ?_
          obtain ⟨x231, hx232, H⟩ := gv_e H
          refine GV.laldO hO hx232 dL_law_523 ?_
          refine GA.iload dL_law_524 rfl ?_
          obtain ⟨hg233, H⟩ := gg_e H
          refine GV.i2l hg233 dL_law_526 ?_
          obtain ⟨hg234, H⟩ := gg_e H
          obtain ⟨hg235, H⟩ := gg_e H
          obtain ⟨x236, hx237, H⟩ := gv_e H
          refine GV.lcmp hg234 hg235 hx237 dL_law_527 ?_
          obtain ⟨hg238, H⟩ := gg_e H
          refine GV.if_eq (tgt := 533) hg238 dL_law_528 (by decide) (fun c239 => ?_) (fun c239 => ?_)
          · have H := it_t H c239
            refine GA.goto (tgt := 2279) dL_law_533 (by decide) ?_
            refine GA.locals [(0, .ref Z.1.1), (1, .ref (L 468)), (2, .ref (L 500)), (3, .ref (L 600)), (4, .int (J a4))] ⟨rfl, rfl, rfl, rfl, rfl, trivial⟩ ?_
            exact ih_2279 hL hO _ _ (a4) _ _ H _ _ (by omega)
          · have H := it_f H c239
            refine GA.iconst dL_law_531 ?_
            cases H
            exact GV.zret (by decide) rfl dL_law_532 (by omega) (by omega) ⟨rfl, rfl⟩
      · have H := it_f H c229
        refine GA.iconst dL_law_514 ?_
        cases H
        exact GV.zret (by decide) rfl dL_law_515 (by omega) (by omega) ⟨rfl, rfl⟩
    have H := it_f H c196
    by_cases c240 : x9 = 6
    · have H := it_t H c240
      refine GA.tableIn (tgt := 536) dL_law_39 hg11 (by omega) (by omega) (by rw [c240] <;> rfl) (by decide) ?_
      refine GA.aload_n dL_law_536 rfl ?_
      refine GA.aload_n dL_law_537 rfl ?_
      refine GA.iload dL_law_538 rfl ?_
      refine GA.iconst dL_law_540 ?_
      obtain ⟨x241, hx242, H⟩ := gv_e H
      refine GV.iadd hx242 dL_law_541 ?_
      obtain ⟨hg243, H⟩ := gg_e H
      obtain ⟨x244, hx245, H⟩ := gv_e H
      refine GV.sld hg243 hx245 dL_law_542 ?_
      refine GA.aload_n dL_law_543 rfl ?_
      refine GA.iload dL_law_544 rfl ?_
      refine GA.iconst dL_law_546 ?_
      obtain ⟨x246, hx247, H⟩ := gv_e H
      refine GV.iadd hx247 dL_law_547 ?_
      obtain ⟨hg248, H⟩ := gg_e H
      obtain ⟨x249, hx250, H⟩ := gv_e H
      refine GV.sld hg248 hx250 dL_law_548 ?_
      refine GA.aload_n dL_law_549 rfl ?_
      refine GA.iload dL_law_550 rfl ?_
      refine GA.iconst dL_law_552 ?_
      obtain ⟨x251, hx252, H⟩ := gv_e H
      refine GV.iadd hx252 dL_law_553 ?_
      obtain ⟨hg253, H⟩ := gg_e H
      obtain ⟨x254, hx255, H⟩ := gv_e H
      refine GV.sld hg253 hx255 dL_law_554 ?_
      refine GA.aload_n dL_law_555 rfl ?_
      obtain ⟨hg256, H⟩ := gg_e H
      obtain ⟨x257, S_258, hc259, H⟩ := gc_e H
      refine GA.callW (m_L_node hO hc259) xs_L_153 dL_law_556 rfl (by omega) (by decide) rfl (Nat.le_of_ble_eq_true rfl) (by omega) (by omega) (fun E S9 hx => hx) (fun v S9 hq => ?_)
      obtain ⟨rfl, rfl⟩ := hq
      refine GA.istore dL_law_559 (by decide) ?_
      refine GA.aload_n dL_law_561 rfl ?_
      refine GA.aload_n dL_law_562 rfl ?_
      refine GA.iload dL_law_563 rfl ?_
      refine GA.iconst dL_law_565 ?_
      obtain ⟨x260, hx261, H⟩ := gv_e H
      refine GV.iadd hx261 dL_law_566 ?_
      obtain ⟨hg262, H⟩ := gg_e H
      obtain ⟨x263, hx264, H⟩ := gv_e H
      refine GV.sld hg262 hx264 dL_law_567 ?_
      refine GA.aload_n dL_law_568 rfl ?_
      refine GA.iload dL_law_569 rfl ?_
      refine GA.iconst dL_law_571 ?_
      obtain ⟨x265, hx266, H⟩ := gv_e H
      refine GV.iadd hx266 dL_law_572 ?_
      obtain ⟨hg267, H⟩ := gg_e H
      obtain ⟨x268, hx269, H⟩ := gv_e H
      refine GV.sld hg267 hx269 dL_law_573 ?_
      refine GA.aload_n dL_law_574 rfl ?_
      refine GA.iload dL_law_575 rfl ?_
      refine GA.iconst dL_law_577 ?_
      obtain ⟨x270, hx271, H⟩ := gv_e H
      refine GV.iadd hx271 dL_law_578 ?_
      obtain ⟨hg272, H⟩ := gg_e H
      obtain ⟨x273, hx274, H⟩ := gv_e H
      refine GV.sld hg272 hx274 dL_law_579 ?_
      obtain ⟨x275, S_276, hc277, H⟩ := gc_e H
      refine GA.callV (m_X12_node hL hc277) xs_L_156 dL_law_580 (gs_500 hL) (by decide) rfl rfl (by omega) (by decide) rfl (Nat.le_of_ble_eq_true rfl) (by omega) (by omega) rfl (fun E S9 hx => hx.elim) (fun v S9 hq => ?_)
      obtain ⟨rfl, rfl⟩ := hq
      refine GA.istore dL_law_583 (by decide) ?_
      refine GA.aload_n dL_law_585 rfl ?_
      obtain ⟨x278, S_279, hc280, H⟩ := gc_e H
      refine GA.callV (m_X12_thrown hL hc280) xs_L_131 dL_law_586 (gs_500 hL) (by decide) rfl rfl (by omega) (by decide) rfl (Nat.le_of_ble_eq_true rfl) (by omega) (by omega) rfl (fun E S9 hx => hx.elim) (fun v S9 hq => ?_)
      obtain ⟨rfl, rfl⟩ := hq
      refine GA.iload dL_law_589 rfl ?_
      obtain ⟨hg281, H⟩ := gg_e H
      obtain ⟨hg282, H⟩ := gg_e H
      refine GV.icmp_eq (tgt := 596) hg281 hg282 dL_law_591 (by decide) (fun c283 => ?_) (fun c283 => ?_)
      · have H := it_t H c283
        refine GA.iload dL_law_596 rfl ?_
        refine GV.if_ne (tgt := 613) hg282 dL_law_598 (by decide) (fun c284 => ?_) (fun c284 => ?_)
        · have H := it_t H c284
          refine GA.goto (tgt := 2279) dL_law_613 (by decide) ?_
          refine GA.locals [(0, .ref Z.1.1), (1, .ref (L 468)), (2, .ref (L 500)), (3, .ref (L 600)), (4, .int (J a4))] ⟨rfl, rfl, rfl, rfl, rfl, trivial⟩ ?_
          exact ih_2279 hL hO _ _ (a4) _ _ H _ _ (by omega)
        · have H := it_f H c284
          refine GA.aload_n dL_law_601 rfl ?_
          refine GA.iconst dL_law_602 ?_
          obtain ⟨x285, hx286, H⟩ := gv_e H
          refine GV.laldO hO hx286 dL_law_603 ?_
          refine GA.iload dL_law_604 rfl ?_
          obtain ⟨hg287, H⟩ := gg_e H
          refine GV.i2l hg287 dL_law_606 ?_
          obtain ⟨hg288, H⟩ := gg_e H
          obtain ⟨hg289, H⟩ := gg_e H
          obtain ⟨x290, hx291, H⟩ := gv_e H
          refine GV.lcmp hg288 hg289 hx291 dL_law_607 ?_
          obtain ⟨hg292, H⟩ := gg_e H
          refine GV.if_eq (tgt := 613) hg292 dL_law_608 (by decide) (fun c293 => ?_) (fun c293 => ?_)
          · have H := it_t H c293
            refine GA.goto (tgt := 2279) dL_law_613 (by decide) ?_
            refine GA.locals [(0, .ref Z.1.1), (1, .ref (L 468)), (2, .ref (L 500)), (3, .ref (L 600)), (4, .int (J a4))] ⟨rfl, rfl, rfl, rfl, rfl, trivial⟩ ?_
            exact ih_2279 hL hO _ _ (a4) _ _ H _ _ (by omega)
          · have H := it_f H c293
            refine GA.iconst dL_law_611 ?_
            cases H
            exact GV.zret (by decide) rfl dL_law_612 (by omega) (by omega) ⟨rfl, rfl⟩
      · have H := it_f H c283
        refine GA.iconst dL_law_594 ?_
        cases H
        exact GV.zret (by decide) rfl dL_law_595 (by omega) (by omega) ⟨rfl, rfl⟩
    have H := it_f H c240
    by_cases c294 : x9 = 7
    · have H := it_t H c294
      refine GA.tableIn (tgt := 616) dL_law_39 hg11 (by omega) (by omega) (by rw [c294] <;> rfl) (by decide) ?_
      refine GA.aload_n dL_law_616 rfl ?_
      refine GA.aload_n dL_law_617 rfl ?_
      refine GA.iload dL_law_618 rfl ?_
      refine GA.iconst dL_law_620 ?_
      obtain ⟨x295, hx296, H⟩ := gv_e H
      refine GV.iadd hx296 dL_law_621 ?_
      obtain ⟨hg297, H⟩ := gg_e H
      obtain ⟨x298, hx299, H⟩ := gv_e H
      refine GV.sld hg297 hx299 dL_law_622 ?_
      refine GA.aload_n dL_law_623 rfl ?_
      refine GA.iload dL_law_624 rfl ?_
      refine GA.iconst dL_law_626 ?_
      obtain ⟨x300, hx301, H⟩ := gv_e H
      refine GV.iadd hx301 dL_law_627 ?_
      obtain ⟨hg302, H⟩ := gg_e H
      obtain ⟨x303, hx304, H⟩ := gv_e H
      refine GV.sld hg302 hx304 dL_law_628 ?_
      refine GA.aload_n dL_law_629 rfl ?_
      refine GA.iload dL_law_630 rfl ?_
      refine GA.iconst dL_law_632 ?_
      obtain ⟨x305, hx306, H⟩ := gv_e H
      refine GV.iadd hx306 dL_law_633 ?_
      obtain ⟨hg307, H⟩ := gg_e H
      obtain ⟨x308, hx309, H⟩ := gv_e H
      refine GV.sld hg307 hx309 dL_law_634 ?_
      refine GA.aload_n dL_law_635 rfl ?_
      obtain ⟨hg310, H⟩ := gg_e H
      obtain ⟨x311, S_312, hc313, H⟩ := gc_e H
      refine GA.callW (m_L_tell hO hc313) xs_L_157 dL_law_636 rfl (by omega) (by decide) rfl (Nat.le_of_ble_eq_true rfl) (by omega) (by omega) (fun E S9 hx => hx) (fun v S9 hq => ?_)
      obtain ⟨rfl, rfl⟩ := hq
      refine GA.istore dL_law_639 (by decide) ?_
      refine GA.aload_n dL_law_641 rfl ?_
      refine GA.aload_n dL_law_642 rfl ?_
      refine GA.iload dL_law_643 rfl ?_
      refine GA.iconst dL_law_645 ?_
      obtain ⟨x314, hx315, H⟩ := gv_e H
      refine GV.iadd hx315 dL_law_646 ?_
      obtain ⟨hg316, H⟩ := gg_e H
      obtain ⟨x317, hx318, H⟩ := gv_e H
      refine GV.sld hg316 hx318 dL_law_647 ?_
      refine GA.aload_n dL_law_648 rfl ?_
      refine GA.iload dL_law_649 rfl ?_
      refine GA.iconst dL_law_651 ?_
      obtain ⟨x319, hx320, H⟩ := gv_e H
      refine GV.iadd hx320 dL_law_652 ?_
      obtain ⟨hg321, H⟩ := gg_e H
      obtain ⟨x322, hx323, H⟩ := gv_e H
      refine GV.sld hg321 hx323 dL_law_653 ?_
      refine GA.aload_n dL_law_654 rfl ?_
      refine GA.iload dL_law_655 rfl ?_
      refine GA.iconst dL_law_657 ?_
      obtain ⟨x324, hx325, H⟩ := gv_e H
      refine GV.iadd hx325 dL_law_658 ?_
      obtain ⟨hg326, H⟩ := gg_e H
      obtain ⟨x327, hx328, H⟩ := gv_e H
      refine GV.sld hg326 hx328 dL_law_659 ?_
      obtain ⟨x329, S_330, hc331, H⟩ := gc_e H
      refine GA.callV (m_X12_tell hL hc331) xs_L_159 dL_law_660 (gs_500 hL) (by decide) rfl rfl (by omega) (by decide) rfl (Nat.le_of_ble_eq_true rfl) (by omega) (by omega) rfl (fun E S9 hx => hx.elim) (fun v S9 hq => ?_)
      obtain ⟨rfl, rfl⟩ := hq
      refine GA.istore dL_law_663 (by decide) ?_
      refine GA.aload_n dL_law_665 rfl ?_
      obtain ⟨x332, S_333, hc334, H⟩ := gc_e H
      refine GA.callV (m_X12_thrown hL hc334) xs_L_131 dL_law_666 (gs_500 hL) (by decide) rfl rfl (by omega) (by decide) rfl (Nat.le_of_ble_eq_true rfl) (by omega) (by omega) rfl (fun E S9 hx => hx.elim) (fun v S9 hq => ?_)
      obtain ⟨rfl, rfl⟩ := hq
      refine GA.iload dL_law_669 rfl ?_
      obtain ⟨hg335, H⟩ := gg_e H
      obtain ⟨hg336, H⟩ := gg_e H
      refine GV.icmp_eq (tgt := 676) hg335 hg336 dL_law_671 (by decide) (fun c337 => ?_) (fun c337 => ?_)
      · have H := it_t H c337
        refine GA.iload dL_law_676 rfl ?_
        refine GV.if_ne (tgt := 693) hg336 dL_law_678 (by decide) (fun c338 => ?_) (fun c338 => ?_)
        · have H := it_t H c338
          refine GA.goto (tgt := 2279) dL_law_693 (by decide) ?_
          refine GA.locals [(0, .ref Z.1.1), (1, .ref (L 468)), (2, .ref (L 500)), (3, .ref (L 600)), (4, .int (J a4))] ⟨rfl, rfl, rfl, rfl, rfl, trivial⟩ ?_
          exact ih_2279 hL hO _ _ (a4) _ _ H _ _ (by omega)
        · have H := it_f H c338
          refine GA.aload_n dL_law_681 rfl ?_
          refine GA.iconst dL_law_682 ?_
          obtain ⟨x339, hx340, H⟩ := gv_e H
          refine GV.laldO hO hx340 dL_law_683 ?_
          refine GA.iload dL_law_684 rfl ?_
          obtain ⟨hg341, H⟩ := gg_e H
          refine GV.i2l hg341 dL_law_686 ?_
          obtain ⟨hg342, H⟩ := gg_e H
          obtain ⟨hg343, H⟩ := gg_e H
          obtain ⟨x344, hx345, H⟩ := gv_e H
          refine GV.lcmp hg342 hg343 hx345 dL_law_687 ?_
          obtain ⟨hg346, H⟩ := gg_e H
          refine GV.if_eq (tgt := 693) hg346 dL_law_688 (by decide) (fun c347 => ?_) (fun c347 => ?_)
          · have H := it_t H c347
            refine GA.goto (tgt := 2279) dL_law_693 (by decide) ?_
            refine GA.locals [(0, .ref Z.1.1), (1, .ref (L 468)), (2, .ref (L 500)), (3, .ref (L 600)), (4, .int (J a4))] ⟨rfl, rfl, rfl, rfl, rfl, trivial⟩ ?_
            exact ih_2279 hL hO _ _ (a4) _ _ H _ _ (by omega)
          · have H := it_f H c347
            refine GA.iconst dL_law_691 ?_
            cases H
            exact GV.zret (by decide) rfl dL_law_692 (by omega) (by omega) ⟨rfl, rfl⟩
      · have H := it_f H c337
        refine GA.iconst dL_law_674 ?_
        cases H
        exact GV.zret (by decide) rfl dL_law_675 (by omega) (by omega) ⟨rfl, rfl⟩
    have H := it_f H c294
    by_cases c348 : x9 = 8
    · have H := it_t H c348
      refine GA.tableIn (tgt := 696) dL_law_39 hg11 (by omega) (by omega) (by rw [c348] <;> rfl) (by decide) ?_
      refine GA.aload_n dL_law_696 rfl ?_
      refine GA.aload_n dL_law_697 rfl ?_
      refine GA.iload dL_law_698 rfl ?_
      refine GA.iconst dL_law_700 ?_
      obtain ⟨x349, hx350, H⟩ := gv_e H
      refine GV.iadd hx350 dL_law_701 ?_
      obtain ⟨hg351, H⟩ := gg_e H
      obtain ⟨x352, hx353, H⟩ := gv_e H
      refine GV.sld hg351 hx353 dL_law_702 ?_
      refine GA.aload_n dL_law_703 rfl ?_
      refine GA.iload dL_law_704 rfl ?_
      refine GA.iconst dL_law_706 ?_
      obtain ⟨x354, hx355, H⟩ := gv_e H
      refine GV.iadd hx355 dL_law_707 ?_
      obtain ⟨hg356, H⟩ := gg_e H
      obtain ⟨x357, hx358, H⟩ := gv_e H
      refine GV.sld hg356 hx358 dL_law_708 ?_
      refine GA.aload_n dL_law_709 rfl ?_
      obtain ⟨hg359, H⟩ := gg_e H
      obtain ⟨x360, S_361, hc362, H⟩ := gc_e H
      refine GA.callW (m_L_equal hO hc362) xs_L_160 dL_law_710 rfl (by omega) (by decide) rfl (Nat.le_of_ble_eq_true rfl) (by omega) (by omega) (fun E S9 hx => hx) (fun v S9 hq => ?_)
      obtain ⟨rfl, rfl⟩ := hq
      refine GA.istore dL_law_713 (by decide) ?_
      refine GA.aload_n dL_law_715 rfl ?_
      refine GA.aload_n dL_law_716 rfl ?_
      refine GA.iload dL_law_717 rfl ?_
      refine GA.iconst dL_law_719 ?_
      obtain ⟨x363, hx364, H⟩ := gv_e H
      refine GV.iadd hx364 dL_law_720 ?_
      obtain ⟨hg365, H⟩ := gg_e H
      obtain ⟨x366, hx367, H⟩ := gv_e H
      refine GV.sld hg365 hx367 dL_law_721 ?_
      refine GA.aload_n dL_law_722 rfl ?_
      refine GA.iload dL_law_723 rfl ?_
      refine GA.iconst dL_law_725 ?_
      obtain ⟨x368, hx369, H⟩ := gv_e H
      refine GV.iadd hx369 dL_law_726 ?_
      obtain ⟨hg370, H⟩ := gg_e H
      obtain ⟨x371, hx372, H⟩ := gv_e H
      refine GV.sld hg370 hx372 dL_law_727 ?_
      obtain ⟨x373, S_374, hc375, H⟩ := gc_e H
      refine GA.callV (m_X12_equal hL hc375) xs_L_162 dL_law_728 (gs_500 hL) (by decide) rfl rfl (by omega) (by decide) rfl (Nat.le_of_ble_eq_true rfl) (by omega) (by omega) rfl (fun E S9 hx => hx.elim) (fun v S9 hq => ?_)
      obtain ⟨rfl, rfl⟩ := hq
      refine GA.istore dL_law_731 (by decide) ?_
      refine GA.aload_n dL_law_733 rfl ?_
      obtain ⟨x376, S_377, hc378, H⟩ := gc_e H
      refine GA.callV (m_X12_thrown hL hc378) xs_L_131 dL_law_734 (gs_500 hL) (by decide) rfl rfl (by omega) (by decide) rfl (Nat.le_of_ble_eq_true rfl) (by omega) (by omega) rfl (fun E S9 hx => hx.elim) (fun v S9 hq => ?_)
      obtain ⟨rfl, rfl⟩ := hq
      refine GA.iload dL_law_737 rfl ?_
      obtain ⟨hg379, H⟩ := gg_e H
      obtain ⟨hg380, H⟩ := gg_e H
      refine GV.icmp_eq (tgt := 744) hg379 hg380 dL_law_739 (by decide) (fun c381 => ?_) (fun c381 => ?_)
      · have H := it_t H c381
        refine GA.iload dL_law_744 rfl ?_
        refine GV.if_ne (tgt := 768) hg380 dL_law_746 (by decide) (fun c382 => ?_) (fun c382 => ?_)
        · have H := it_t H c382
          refine GA.goto (tgt := 2279) dL_law_768 (by decide) ?_
          refine GA.locals [(0, .ref Z.1.1), (1, .ref (L 468)), (2, .ref (L 500)), (3, .ref (L 600)), (4, .int (J a4))] ⟨rfl, rfl, rfl, rfl, rfl, trivial⟩ ?_
          exact ih_2279 hL hO _ _ (a4) _ _ H _ _ (by omega)
        · have H := it_f H c382
          refine GA.aload_n dL_law_749 rfl ?_
          refine GA.iconst dL_law_750 ?_
          obtain ⟨x383, hx384, H⟩ := gv_e H
          refine GV.laldO hO hx384 dL_law_751 ?_
          refine GA.iload dL_law_752 rfl ?_
          obtain ⟨hg385, H⟩ := gg_e H
          refine GV.if_eq (tgt := 761) hg385 dL_law_754 (by decide) (fun c386 => ?_) (fun c386 => ?_)
          · have H := it_t H c386
            refine GV.lconst (z := 0) (by decide) dL_law_761 ?_
            obtain ⟨hg387, H⟩ := gg_e H
            obtain ⟨x388, hx389, H⟩ := gv_e H
            refine GV.lcmp hg387 (by decide) hx389 dL_law_762 ?_
            obtain ⟨hg390, H⟩ := gg_e H
            refine GV.if_eq (tgt := 768) hg390 dL_law_763 (by decide) (fun c391 => ?_) (fun c391 => ?_)
            · have H := it_t H c391
              refine GA.goto (tgt := 2279) dL_law_768 (by decide) ?_
              refine GA.locals [(0, .ref Z.1.1), (1, .ref (L 468)), (2, .ref (L 500)), (3, .ref (L 600)), (4, .int (J a4))] ⟨rfl, rfl, rfl, rfl, rfl, trivial⟩ ?_
              exact ih_2279 hL hO _ _ (a4) _ _ H _ _ (by omega)
            · have H := it_f H c391
              refine GA.iconst dL_law_766 ?_
              cases H
              exact GV.zret (by decide) rfl dL_law_767 (by omega) (by omega) ⟨rfl, rfl⟩
          · have H := it_f H c386
            refine GV.lconst (z := 1) (by decide) dL_law_757 ?_
            refine GA.goto (tgt := 762) dL_law_758 (by decide) ?_
            obtain ⟨hg392, H⟩ := gg_e H
            obtain ⟨x393, hx394, H⟩ := gv_e H
            refine GV.lcmp hg392 (by decide) hx394 dL_law_762 ?_
            obtain ⟨hg395, H⟩ := gg_e H
            refine GV.if_eq (tgt := 768) hg395 dL_law_763 (by decide) (fun c396 => ?_) (fun c396 => ?_)
            · have H := it_t H c396
              refine GA.goto (tgt := 2279) dL_law_768 (by decide) ?_
              refine GA.locals [(0, .ref Z.1.1), (1, .ref (L 468)), (2, .ref (L 500)), (3, .ref (L 600)), (4, .int (J a4))] ⟨rfl, rfl, rfl, rfl, rfl, trivial⟩ ?_
              exact ih_2279 hL hO _ _ (a4) _ _ H _ _ (by omega)
            · have H := it_f H c396
              refine GA.iconst dL_law_766 ?_
              cases H
              exact GV.zret (by decide) rfl dL_law_767 (by omega) (by omega) ⟨rfl, rfl⟩
      · have H := it_f H c381
        refine GA.iconst dL_law_742 ?_
        cases H
        exact GV.zret (by decide) rfl dL_law_743 (by omega) (by omega) ⟨rfl, rfl⟩
    have H := it_f H c348
    by_cases c397 : x9 = 9
    · have H := it_t H c397
      refine GA.tableIn (tgt := 771) dL_law_39 hg11 (by omega) (by omega) (by rw [c397] <;> rfl) (by decide) ?_
      refine GA.aload_n dL_law_771 rfl ?_
      refine GA.aload_n dL_law_772 rfl ?_
      refine GA.iload dL_law_773 rfl ?_
      refine GA.iconst dL_law_775 ?_
      obtain ⟨x398, hx399, H⟩ := gv_e H
      refine GV.iadd hx399 dL_law_776 ?_
      obtain ⟨hg400, H⟩ := gg_e H
      obtain ⟨x401, hx402, H⟩ := gv_e H
      refine GV.sld hg400 hx402 dL_law_777 ?_
      refine GA.aload_n dL_law_778 rfl ?_
      refine GA.iload dL_law_779 rfl ?_
      refine GA.iconst dL_law_781 ?_
      obtain ⟨x403, hx404, H⟩ := gv_e H
      refine GV.iadd hx404 dL_law_782 ?_
      obtain ⟨hg405, H⟩ := gg_e H
      obtain ⟨x406, hx407, H⟩ := gv_e H
      refine GV.sld hg405 hx407 dL_law_783 ?_
      refine GA.aload_n dL_law_784 rfl ?_
      obtain ⟨hg408, H⟩ := gg_e H
      obtain ⟨x409, S_410, hc411, H⟩ := gc_e H
      refine GA.callW (m_L_compare hO hc411) xs_L_163 dL_law_785 rfl (by omega) (by decide) rfl (Nat.le_of_ble_eq_true rfl) (by omega) (by omega) (fun E S9 hx => hx) (fun v S9 hq => ?_)
      obtain ⟨rfl, rfl⟩ := hq
      refine GA.istore dL_law_788 (by decide) ?_
      refine GA.aload_n dL_law_790 rfl ?_
      refine GA.aload_n dL_law_791 rfl ?_
      refine GA.iload dL_law_792 rfl ?_
      refine GA.iconst dL_law_794 ?_
      obtain ⟨x412, hx413, H⟩ := gv_e H
      refine GV.iadd hx413 dL_law_795 ?_
      obtain ⟨hg414, H⟩ := gg_e H
      obtain ⟨x415, hx416, H⟩ := gv_e H
      refine GV.sld hg414 hx416 dL_law_796 ?_
      refine GA.aload_n dL_law_797 rfl ?_
      refine GA.iload dL_law_798 rfl ?_
      refine GA.iconst dL_law_800 ?_
      obtain ⟨x417, hx418, H⟩ := gv_e H
      refine GV.iadd hx418 dL_law_801 ?_
      obtain ⟨hg419, H⟩ := gg_e H
      obtain ⟨x420, hx421, H⟩ := gv_e H
      refine GV.sld hg419 hx421 dL_law_802 ?_
      obtain ⟨x422, S_423, hc424, H⟩ := gc_e H
      refine GA.callV (m_X12_compare hL hc424) xs_L_165 dL_law_803 (gs_500 hL) (by decide) rfl rfl (by omega) (by decide) rfl (Nat.le_of_ble_eq_true rfl) (by omega) (by omega) rfl (fun E S9 hx => hx.elim) (fun v S9 hq => ?_)
      obtain ⟨rfl, rfl⟩ := hq
      refine GA.istore dL_law_806 (by decide) ?_
      refine GA.aload_n dL_law_808 rfl ?_
      obtain ⟨x425, S_426, hc427, H⟩ := gc_e H
      refine GA.callV (m_X12_thrown hL hc427) xs_L_131 dL_law_809 (gs_500 hL) (by decide) rfl rfl (by omega) (by decide) rfl (Nat.le_of_ble_eq_true rfl) (by omega) (by omega) rfl (fun E S9 hx => hx.elim) (fun v S9 hq => ?_)
      obtain ⟨rfl, rfl⟩ := hq
      refine GA.iload dL_law_812 rfl ?_
      obtain ⟨hg428, H⟩ := gg_e H
      obtain ⟨hg429, H⟩ := gg_e H
      refine GV.icmp_eq (tgt := 819) hg428 hg429 dL_law_814 (by decide) (fun c430 => ?_) (fun c430 => ?_)
      · have H := it_t H c430
        refine GA.iload dL_law_819 rfl ?_
        refine GV.if_ne (tgt := 836) hg429 dL_law_821 (by decide) (fun c431 => ?_) (fun c431 => ?_)
        · have H := it_t H c431
          refine GA.goto (tgt := 2279) dL_law_836 (by decide) ?_
          refine GA.locals [(0, .ref Z.1.1), (1, .ref (L 468)), (2, .ref (L 500)), (3, .ref (L 600)), (4, .int (J a4))] ⟨rfl, rfl, rfl, rfl, rfl, trivial⟩ ?_
          exact ih_2279 hL hO _ _ (a4) _ _ H _ _ (by omega)
        · have H := it_f H c431
          refine GA.aload_n dL_law_824 rfl ?_
          refine GA.iconst dL_law_825 ?_
          obtain ⟨x432, hx433, H⟩ := gv_e H
          refine GV.laldO hO hx433 dL_law_826 ?_
          refine GA.iload dL_law_827 rfl ?_
          obtain ⟨hg434, H⟩ := gg_e H
          refine GV.i2l hg434 dL_law_829 ?_
          obtain ⟨hg435, H⟩ := gg_e H
          obtain ⟨hg436, H⟩ := gg_e H
          obtain ⟨x437, hx438, H⟩ := gv_e H
          refine GV.lcmp hg435 hg436 hx438 dL_law_830 ?_
          obtain ⟨hg439, H⟩ := gg_e H
          refine GV.if_eq (tgt := 836) hg439 dL_law_831 (by decide) (fun c440 => ?_) (fun c440 => ?_)
          · have H := it_t H c440
            refine GA.goto (tgt := 2279) dL_law_836 (by decide) ?_
            refine GA.locals [(0, .ref Z.1.1), (1, .ref (L 468)), (2, .ref (L 500)), (3, .ref (L 600)), (4, .int (J a4))] ⟨rfl, rfl, rfl, rfl, rfl, trivial⟩ ?_
            exact ih_2279 hL hO _ _ (a4) _ _ H _ _ (by omega)
          · have H := it_f H c440
            refine GA.iconst dL_law_834 ?_
            cases H
            exact GV.zret (by decide) rfl dL_law_835 (by omega) (by omega) ⟨rfl, rfl⟩
      · have H := it_f H c430
        refine GA.iconst dL_law_817 ?_
        cases H
        exact GV.zret (by decide) rfl dL_law_818 (by omega) (by omega) ⟨rfl, rfl⟩
    have H := it_f H c397
    by_cases c441 : x9 = 10
    · have H := it_t H c441
      refine GA.tableIn (tgt := 839) dL_law_39 hg11 (by omega) (by omega) (by rw [c441] <;> rfl) (by decide) ?_
      refine GA.aload_n dL_law_839 rfl ?_
      refine GA.aload_n dL_law_840 rfl ?_
      refine GA.iload dL_law_841 rfl ?_
      refine GA.iconst dL_law_843 ?_
      obtain ⟨x442, hx443, H⟩ := gv_e H
      refine GV.iadd hx443 dL_law_844 ?_
      obtain ⟨hg444, H⟩ := gg_e H
      obtain ⟨x445, hx446, H⟩ := gv_e H
      refine GV.sld hg444 hx446 dL_law_845 ?_
      refine GA.aload_n dL_law_846 rfl ?_
      refine GA.iload dL_law_847 rfl ?_
      refine GA.iconst dL_law_849 ?_
      obtain ⟨x447, hx448, H⟩ := gv_e H
      refine GV.iadd hx448 dL_law_850 ?_
      obtain ⟨hg449, H⟩ := gg_e H
      obtain ⟨x450, hx451, H⟩ := gv_e H
      refine GV.sld hg449 hx451 dL_law_851 ?_
      refine GA.aload_n dL_law_852 rfl ?_
      obtain ⟨hg452, H⟩ := gg_e H
      obtain ⟨x453, S_454, hc455, H⟩ := gc_e H
      refine GA.callW (m_L_digest hO hc455) xs_L_166 dL_law_853 rfl (by omega) (by decide) rfl (Nat.le_of_ble_eq_true rfl) (by omega) (by omega) (fun E S9 hx => hx) (fun v S9 hq => ?_)
      obtain ⟨rfl, rfl⟩ := hq
      refine GA.istore dL_law_856 (by decide) ?_
      refine GA.aload_n dL_law_858 rfl ?_
      refine GA.aload_n dL_law_859 rfl ?_
      refine GA.iload dL_law_860 rfl ?_
      refine GA.iconst dL_law_862 ?_
      obtain ⟨x456, hx457, H⟩ := gv_e H
      refine GV.iadd hx457 dL_law_863 ?_
      obtain ⟨hg458, H⟩ := gg_e H
      obtain ⟨x459, hx460, H⟩ := gv_e H
      refine GV.sld hg458 hx460 dL_law_864 ?_
      refine GA.aload_n dL_law_865 rfl ?_
      refine GA.iload dL_law_866 rfl ?_
      refine GA.iconst dL_law_868 ?_
      obtain ⟨x461, hx462, H⟩ := gv_e H
      refine GV.iadd hx462 dL_law_869 ?_
      obtain ⟨hg463, H⟩ := gg_e H
      obtain ⟨x464, hx465, H⟩ := gv_e H
      refine GV.sld hg463 hx465 dL_law_870 ?_
      obtain ⟨x466, S_467, hc468, H⟩ := gc_e H
      refine GA.callV (m_X12_digest hL hc468) xs_L_168 dL_law_871 (gs_500 hL) (by decide) rfl rfl (by omega) (by decide) rfl (Nat.le_of_ble_eq_true rfl) (by omega) (by omega) rfl (fun E S9 hx => hx.elim) (fun v S9 hq => ?_)
      obtain ⟨rfl, rfl⟩ := hq
      refine GA.istore dL_law_874 (by decide) ?_
      refine GA.aload_n dL_law_876 rfl ?_
      obtain ⟨x469, S_470, hc471, H⟩ := gc_e H
      refine GA.callV (m_X12_thrown hL hc471) xs_L_131 dL_law_877 (gs_500 hL) (by decide) rfl rfl (by omega) (by decide) rfl (Nat.le_of_ble_eq_true rfl) (by omega) (by omega) rfl (fun E S9 hx => hx.elim) (fun v S9 hq => ?_)
      obtain ⟨rfl, rfl⟩ := hq
      refine GA.iload dL_law_880 rfl ?_
      obtain ⟨hg472, H⟩ := gg_e H
      obtain ⟨hg473, H⟩ := gg_e H
      refine GV.icmp_eq (tgt := 887) hg472 hg473 dL_law_882 (by decide) (fun c474 => ?_) (fun c474 => ?_)
      · have H := it_t H c474
        refine GA.iload dL_law_887 rfl ?_
        refine GV.if_ne (tgt := 904) hg473 dL_law_889 (by decide) (fun c475 => ?_) (fun c475 => ?_)
        · have H := it_t H c475
          refine GA.goto (tgt := 2279) dL_law_904 (by decide) ?_
          refine GA.locals [(0, .ref Z.1.1), (1, .ref (L 468)), (2, .ref (L 500)), (3, .ref (L 600)), (4, .int (J a4))] ⟨rfl, rfl, rfl, rfl, rfl, trivial⟩ ?_
          exact ih_2279 hL hO _ _ (a4) _ _ H _ _ (by omega)
        · have H := it_f H c475
          refine GA.aload_n dL_law_892 rfl ?_
          refine GA.iconst dL_law_893 ?_
          obtain ⟨x476, hx477, H⟩ := gv_e H
          refine GV.laldO hO hx477 dL_law_894 ?_
          refine GA.iload dL_law_895 rfl ?_
          obtain ⟨hg478, H⟩ := gg_e H
          refine GV.i2l hg478 dL_law_897 ?_
          obtain ⟨hg479, H⟩ := gg_e H
          obtain ⟨hg480, H⟩ := gg_e H
          obtain ⟨x481, hx482, H⟩ := gv_e H
          refine GV.lcmp hg479 hg480 hx482 dL_law_898 ?_
          obtain ⟨hg483, H⟩ := gg_e H
          refine GV.if_eq (tgt := 904) hg483 dL_law_899 (by decide) (fun c484 => ?_) (fun c484 => ?_)
          · have H := it_t H c484
            refine GA.goto (tgt := 2279) dL_law_904 (by decide) ?_
            refine GA.locals [(0, .ref Z.1.1), (1, .ref (L 468)), (2, .ref (L 500)), (3, .ref (L 600)), (4, .int (J a4))] ⟨rfl, rfl, rfl, rfl, rfl, trivial⟩ ?_
            exact ih_2279 hL hO _ _ (a4) _ _ H _ _ (by omega)
          · have H := it_f H c484
            refine GA.iconst dL_law_902 ?_
            cases H
            exact GV.zret (by decide) rfl dL_law_903 (by omega) (by omega) ⟨rfl, rfl⟩
      · have H := it_f H c474
        refine GA.iconst dL_law_885 ?_
        cases H
        exact GV.zret (by decide) rfl dL_law_886 (by omega) (by omega) ⟨rfl, rfl⟩
    have H := it_f H c441
    by_cases c485 : x9 = 11
    · have H := it_t H c485
      refine GA.tableIn (tgt := 907) dL_law_39 hg11 (by omega) (by omega) (by rw [c485] <;> rfl) (by decide) ?_
      refine GA.aload_n dL_law_907 rfl ?_
      refine GA.aload_n dL_law_908 rfl ?_
      refine GA.iload dL_law_909 rfl ?_
      refine GA.iconst dL_law_911 ?_
      obtain ⟨x486, hx487, H⟩ := gv_e H
      refine GV.iadd hx487 dL_law_912 ?_
      obtain ⟨hg488, H⟩ := gg_e H
      obtain ⟨x489, hx490, H⟩ := gv_e H
      refine GV.sld hg488 hx490 dL_law_913 ?_
      refine GA.aload_n dL_law_914 rfl ?_
      refine GA.iload dL_law_915 rfl ?_
      refine GA.iconst dL_law_917 ?_
      obtain ⟨x491, hx492, H⟩ := gv_e H
      refine GV.iadd hx492 dL_law_918 ?_
      obtain ⟨hg493, H⟩ := gg_e H
      obtain ⟨x494, hx495, H⟩ := gv_e H
      refine GV.sld hg493 hx495 dL_law_919 ?_
      refine GA.aload_n dL_law_920 rfl ?_
      obtain ⟨hg496, H⟩ := gg_e H
      obtain ⟨x497, S_498, hc499, H⟩ := gc_e H
      refine GA.callW (m_L_take hO hc499) xs_L_169 dL_law_921 rfl (by omega) (by decide) rfl (Nat.le_of_ble_eq_true rfl) (by omega) (by omega) (fun E S9 hx => hx) (fun v S9 hq => ?_)
      obtain ⟨rfl, rfl⟩ := hq
      refine GA.istore dL_law_924 (by decide) ?_
      refine GA.aload_n dL_law_926 rfl ?_
      refine GA.aload_n dL_law_927 rfl ?_
      refine GA.iload dL_law_928 rfl ?_
      refine GA.iconst dL_law_930 ?_
      obtain ⟨x500, hx501, H⟩ := gv_e H
      refine GV.iadd hx501 dL_law_931 ?_
      obtain ⟨hg502, H⟩ := gg_e H
      obtain ⟨x503, hx504, H⟩ := gv_e H
      refine GV.sld hg502 hx504 dL_law_932 ?_
      refine GA.aload_n dL_law_933 rfl ?_
      refine GA.iload dL_law_934 rfl ?_
      refine GA.iconst dL_law_936 ?_
      obtain ⟨x505, hx506, H⟩ := gv_e H
      refine GV.iadd hx506 dL_law_937 ?_
      obtain ⟨hg507, H⟩ := gg_e H
      obtain ⟨x508, hx509, H⟩ := gv_e H
      refine GV.sld hg507 hx509 dL_law_938 ?_
      obtain ⟨x510, S_511, hc512, H⟩ := gc_e H
      refine GA.callV (m_X12_take hL hc512) xs_L_171 dL_law_939 (gs_500 hL) (by decide) rfl rfl (by omega) (by decide) rfl (Nat.le_of_ble_eq_true rfl) (by omega) (by omega) rfl (fun E S9 hx => hx.elim) (fun v S9 hq => ?_)
      obtain ⟨rfl, rfl⟩ := hq
      refine GA.istore dL_law_942 (by decide) ?_
      refine GA.aload_n dL_law_944 rfl ?_
      obtain ⟨x513, S_514, hc515, H⟩ := gc_e H
      refine GA.callV (m_X12_thrown hL hc515) xs_L_131 dL_law_945 (gs_500 hL) (by decide) rfl rfl (by omega) (by decide) rfl (Nat.le_of_ble_eq_true rfl) (by omega) (by omega) rfl (fun E S9 hx => hx.elim) (fun v S9 hq => ?_)
      obtain ⟨rfl, rfl⟩ := hq
      refine GA.iload dL_law_948 rfl ?_
      obtain ⟨hg516, H⟩ := gg_e H
      obtain ⟨hg517, H⟩ := gg_e H
      refine GV.icmp_eq (tgt := 955) hg516 hg517 dL_law_950 (by decide) (fun c518 => ?_) (fun c518 => ?_)
      · have H := it_t H c518
        refine GA.iload dL_law_955 rfl ?_
        refine GV.if_ne (tgt := 972) hg517 dL_law_957 (by decide) (fun c519 => ?_) (fun c519 => ?_)
        · have H := it_t H c519
          refine GA.goto (tgt := 2279) dL_law_972 (by decide) ?_
          refine GA.locals [(0, .ref Z.1.1), (1, .ref (L 468)), (2, .ref (L 500)), (3, .ref (L 600)), (4, .int (J a4))] ⟨rfl, rfl, rfl, rfl, rfl, trivial⟩ ?_
          exact ih_2279 hL hO _ _ (a4) _ _ H _ _ (by omega)
        · have H := it_f H c519
          refine GA.aload_n dL_law_960 rfl ?_
          refine GA.iconst dL_law_961 ?_
          obtain ⟨x520, hx521, H⟩ := gv_e H
          refine GV.laldO hO hx521 dL_law_962 ?_
          refine GA.iload dL_law_963 rfl ?_
          obtain ⟨hg522, H⟩ := gg_e H
          refine GV.i2l hg522 dL_law_965 ?_
          obtain ⟨hg523, H⟩ := gg_e H
          obtain ⟨hg524, H⟩ := gg_e H
          obtain ⟨x525, hx526, H⟩ := gv_e H
          refine GV.lcmp hg523 hg524 hx526 dL_law_966 ?_
          obtain ⟨hg527, H⟩ := gg_e H
          refine GV.if_eq (tgt := 972) hg527 dL_law_967 (by decide) (fun c528 => ?_) (fun c528 => ?_)
          · have H := it_t H c528
            refine GA.goto (tgt := 2279) dL_law_972 (by decide) ?_
            refine GA.locals [(0, .ref Z.1.1), (1, .ref (L 468)), (2, .ref (L 500)), (3, .ref (L 600)), (4, .int (J a4))] ⟨rfl, rfl, rfl, rfl, rfl, trivial⟩ ?_
            exact ih_2279 hL hO _ _ (a4) _ _ H _ _ (by omega)
          · have H := it_f H c528
            refine GA.iconst dL_law_970 ?_
            cases H
            exact GV.zret (by decide) rfl dL_law_971 (by omega) (by omega) ⟨rfl, rfl⟩
      · have H := it_f H c518
        refine GA.iconst dL_law_953 ?_
        cases H
        exact GV.zret (by decide) rfl dL_law_954 (by omega) (by omega) ⟨rfl, rfl⟩
    have H := it_f H c485
    by_cases c529 : x9 = 12
    · have H := it_t H c529
      refine GA.tableIn (tgt := 975) dL_law_39 hg11 (by omega) (by omega) (by rw [c529] <;> rfl) (by decide) ?_
      refine GA.aload_n dL_law_975 rfl ?_
      refine GA.aload_n dL_law_976 rfl ?_
      refine GA.iload dL_law_977 rfl ?_
      refine GA.iconst dL_law_979 ?_
      obtain ⟨x530, hx531, H⟩ := gv_e H
      refine GV.iadd hx531 dL_law_980 ?_
      obtain ⟨hg532, H⟩ := gg_e H
      obtain ⟨x533, hx534, H⟩ := gv_e H
      refine GV.sld hg532 hx534 dL_law_981 ?_
      refine GA.aload_n dL_law_982 rfl ?_
      obtain ⟨hg535, H⟩ := gg_e H
      obtain ⟨x536, S_537, hc538, H⟩ := gc_e H
      refine GA.callW (m_L_sorted hO hc538) xs_L_172 dL_law_983 rfl (by omega) (by decide) rfl (Nat.le_of_ble_eq_true rfl) (by omega) (by omega) (fun E S9 hx => hx) (fun v S9 hq => ?_)
      obtain ⟨rfl, rfl⟩ := hq
      refine GA.istore dL_law_986 (by decide) ?_
      refine GA.aload_n dL_law_988 rfl ?_
      refine GA.aload_n dL_law_989 rfl ?_
      refine GA.iload dL_law_990 rfl ?_
      refine GA.iconst dL_law_992 ?_
      obtain ⟨x539, hx540, H⟩ := gv_e H
      refine GV.iadd hx540 dL_law_993 ?_
      obtain ⟨hg541, H⟩ := gg_e H
      obtain ⟨x542, hx543, H⟩ := gv_e H
      refine GV.sld hg541 hx543 dL_law_994 ?_
      obtain ⟨x544, S_545, hc546, H⟩ := gc_e H
      refine GA.callV (m_X12_sorted hL hc546) xs_L_174 dL_law_995 (gs_500 hL) (by decide) rfl rfl (by omega) (by decide) rfl (Nat.le_of_ble_eq_true rfl) (by omega) (by omega) rfl (fun E S9 hx => hx.elim) (fun v S9 hq => ?_)
      obtain ⟨rfl, rfl⟩ := hq
      refine GA.istore dL_law_998 (by decide) ?_
      refine GA.aload_n dL_law_1000 rfl ?_
      obtain ⟨x547, S_548, hc549, H⟩ := gc_e H
      refine GA.callV (m_X12_thrown hL hc549) xs_L_131 dL_law_1001 (gs_500 hL) (by decide) rfl rfl (by omega) (by decide) rfl (Nat.le_of_ble_eq_true rfl) (by omega) (by omega) rfl (fun E S9 hx => hx.elim) (fun v S9 hq => ?_)
      obtain ⟨rfl, rfl⟩ := hq
      refine GA.iload dL_law_1004 rfl ?_
      obtain ⟨hg550, H⟩ := gg_e H
      obtain ⟨hg551, H⟩ := gg_e H
      refine GV.icmp_eq (tgt := 1011) hg550 hg551 dL_law_1006 (by decide) (fun c552 => ?_) (fun c552 => ?_)
      · have H := it_t H c552
        refine GA.iload dL_law_1011 rfl ?_
        refine GV.if_ne (tgt := 1028) hg551 dL_law_1013 (by decide) (fun c553 => ?_) (fun c553 => ?_)
        · have H := it_t H c553
          refine GA.goto (tgt := 2279) dL_law_1028 (by decide) ?_
          refine GA.locals [(0, .ref Z.1.1), (1, .ref (L 468)), (2, .ref (L 500)), (3, .ref (L 600)), (4, .int (J a4))] ⟨rfl, rfl, rfl, rfl, rfl, trivial⟩ ?_
          exact ih_2279 hL hO _ _ (a4) _ _ H _ _ (by omega)
        · have H := it_f H c553
          refine GA.aload_n dL_law_1016 rfl ?_
          refine GA.iconst dL_law_1017 ?_
          obtain ⟨x554, hx555, H⟩ := gv_e H
          refine GV.laldO hO hx555 dL_law_1018 ?_
          refine GA.iload dL_law_1019 rfl ?_
          obtain ⟨hg556, H⟩ := gg_e H
          refine GV.i2l hg556 dL_law_1021 ?_
          obtain ⟨hg557, H⟩ := gg_e H
          obtain ⟨hg558, H⟩ := gg_e H
          obtain ⟨x559, hx560, H⟩ := gv_e H
          refine GV.lcmp hg557 hg558 hx560 dL_law_1022 ?_
          obtain ⟨hg561, H⟩ := gg_e H
          refine GV.if_eq (tgt := 1028) hg561 dL_law_1023 (by decide) (fun c562 => ?_) (fun c562 => ?_)
          · have H := it_t H c562
            refine GA.goto (tgt := 2279) dL_law_1028 (by decide) ?_
            refine GA.locals [(0, .ref Z.1.1), (1, .ref (L 468)), (2, .ref (L 500)), (3, .ref (L 600)), (4, .int (J a4))] ⟨rfl, rfl, rfl, rfl, rfl, trivial⟩ ?_
            exact ih_2279 hL hO _ _ (a4) _ _ H _ _ (by omega)
          · have H := it_f H c562
            refine GA.iconst dL_law_1026 ?_
            cases H
            exact GV.zret (by decide) rfl dL_law_1027 (by omega) (by omega) ⟨rfl, rfl⟩
      · have H := it_f H c552
        refine GA.iconst dL_law_1009 ?_
        cases H
        exact GV.zret (by decide) rfl dL_law_1010 (by omega) (by omega) ⟨rfl, rfl⟩
    have H := it_f H c529
    by_cases c563 : x9 = 13
    · have H := it_t H c563
      refine GA.tableIn (tgt := 1031) dL_law_39 hg11 (by omega) (by omega) (by rw [c563] <;> rfl) (by decide) ?_
      refine GA.aload_n dL_law_1031 rfl ?_
      refine GA.aload_n dL_law_1032 rfl ?_
      refine GA.iload dL_law_1033 rfl ?_
      refine GA.iconst dL_law_1035 ?_
      obtain ⟨x564, hx565, H⟩ := gv_e H
      refine GV.iadd hx565 dL_law_1036 ?_
      obtain ⟨hg566, H⟩ := gg_e H
      obtain ⟨x567, hx568, H⟩ := gv_e H
      refine GV.sld hg566 hx568 dL_law_1037 ?_
      refine GA.aload_n dL_law_1038 rfl ?_
      refine GA.iload dL_law_1039 rfl ?_
      refine GA.iconst dL_law_1041 ?_
      obtain ⟨x569, hx570, H⟩ := gv_e H
      refine GV.iadd hx570 dL_law_1042 ?_
      obtain ⟨hg571, H⟩ := gg_e H
      obtain ⟨x572, hx573, H⟩ := gv_e H
      refine GV.sld hg571 hx573 dL_law_1043 ?_
      refine GA.aload_n dL_law_1044 rfl ?_
      obtain ⟨hg574, H⟩ := gg_e H
      obtain ⟨x575, S_576, hc577, H⟩ := gc_e H
      refine GA.callW (m_L_both hO hc577) xs_L_175 dL_law_1045 rfl (by omega) (by decide) rfl (Nat.le_of_ble_eq_true rfl) (by omega) (by omega) (fun E S9 hx => hx) (fun v S9 hq => ?_)
      obtain ⟨rfl, rfl⟩ := hq
      refine GA.istore dL_law_1048 (by decide) ?_
      refine GA.aload_n dL_law_1050 rfl ?_
      refine GA.aload_n dL_law_1051 rfl ?_
      refine GA.iload dL_law_1052 rfl ?_
      refine GA.iconst dL_law_1054 ?_
      obtain ⟨x578, hx579, H⟩ := gv_e H
      refine GV.iadd hx579 dL_law_1055 ?_
      obtain ⟨hg580, H⟩ := gg_e H
      obtain ⟨x581, hx582, H⟩ := gv_e H
      refine GV.sld hg580 hx582 dL_law_1056 ?_
      refine GA.aload_n dL_law_1057 rfl ?_
      refine GA.iload dL_law_1058 rfl ?_
      refine GA.iconst dL_law_1060 ?_
      obtain ⟨x583, hx584, H⟩ := gv_e H
      refine GV.iadd hx584 dL_law_1061 ?_
      obtain ⟨hg585, H⟩ := gg_e H
      obtain ⟨x586, hx587, H⟩ := gv_e H
      refine GV.sld hg585 hx587 dL_law_1062 ?_
      obtain ⟨x588, S_589, hc590, H⟩ := gc_e H
      refine GA.callV (m_X12_both hL hc590) xs_L_177 dL_law_1063 (gs_500 hL) (by decide) rfl rfl (by omega) (by decide) rfl (Nat.le_of_ble_eq_true rfl) (by omega) (by omega) rfl (fun E S9 hx => hx.elim) (fun v S9 hq => ?_)
      obtain ⟨rfl, rfl⟩ := hq
      refine GA.istore dL_law_1066 (by decide) ?_
      refine GA.aload_n dL_law_1068 rfl ?_
      obtain ⟨x591, S_592, hc593, H⟩ := gc_e H
      refine GA.callV (m_X12_thrown hL hc593) xs_L_131 dL_law_1069 (gs_500 hL) (by decide) rfl rfl (by omega) (by decide) rfl (Nat.le_of_ble_eq_true rfl) (by omega) (by omega) rfl (fun E S9 hx => hx.elim) (fun v S9 hq => ?_)
      obtain ⟨rfl, rfl⟩ := hq
      refine GA.iload dL_law_1072 rfl ?_
      obtain ⟨hg594, H⟩ := gg_e H
      obtain ⟨hg595, H⟩ := gg_e H
      refine GV.icmp_eq (tgt := 1079) hg594 hg595 dL_law_1074 (by decide) (fun c596 => ?_) (fun c596 => ?_)
      · have H := it_t H c596
        refine GA.iload dL_law_1079 rfl ?_
        refine GV.if_ne (tgt := 1096) hg595 dL_law_1081 (by decide) (fun c597 => ?_) (fun c597 => ?_)
        · have H := it_t H c597
          refine GA.goto (tgt := 2279) dL_law_1096 (by decide) ?_
          refine GA.locals [(0, .ref Z.1.1), (1, .ref (L 468)), (2, .ref (L 500)), (3, .ref (L 600)), (4, .int (J a4))] ⟨rfl, rfl, rfl, rfl, rfl, trivial⟩ ?_
          exact ih_2279 hL hO _ _ (a4) _ _ H _ _ (by omega)
        · have H := it_f H c597
          refine GA.aload_n dL_law_1084 rfl ?_
          refine GA.iconst dL_law_1085 ?_
          obtain ⟨x598, hx599, H⟩ := gv_e H
          refine GV.laldO hO hx599 dL_law_1086 ?_
          refine GA.iload dL_law_1087 rfl ?_
          obtain ⟨hg600, H⟩ := gg_e H
          refine GV.i2l hg600 dL_law_1089 ?_
          obtain ⟨hg601, H⟩ := gg_e H
          obtain ⟨hg602, H⟩ := gg_e H
          obtain ⟨x603, hx604, H⟩ := gv_e H
          refine GV.lcmp hg601 hg602 hx604 dL_law_1090 ?_
          obtain ⟨hg605, H⟩ := gg_e H
          refine GV.if_eq (tgt := 1096) hg605 dL_law_1091 (by decide) (fun c606 => ?_) (fun c606 => ?_)
          · have H := it_t H c606
            refine GA.goto (tgt := 2279) dL_law_1096 (by decide) ?_
            refine GA.locals [(0, .ref Z.1.1), (1, .ref (L 468)), (2, .ref (L 500)), (3, .ref (L 600)), (4, .int (J a4))] ⟨rfl, rfl, rfl, rfl, rfl, trivial⟩ ?_
            exact ih_2279 hL hO _ _ (a4) _ _ H _ _ (by omega)
          · have H := it_f H c606
            refine GA.iconst dL_law_1094 ?_
            cases H
            exact GV.zret (by decide) rfl dL_law_1095 (by omega) (by omega) ⟨rfl, rfl⟩
      · have H := it_f H c596
        refine GA.iconst dL_law_1077 ?_
        cases H
        exact GV.zret (by decide) rfl dL_law_1078 (by omega) (by omega) ⟨rfl, rfl⟩
    have H := it_f H c563
    by_cases c607 : x9 = 14
    · have H := it_t H c607
      refine GA.tableIn (tgt := 1099) dL_law_39 hg11 (by omega) (by omega) (by rw [c607] <;> rfl) (by decide) ?_
      refine GA.aload_n dL_law_1099 rfl ?_
      refine GA.aload_n dL_law_1100 rfl ?_
      obtain ⟨hg608, H⟩ := gg_e H
      obtain ⟨x609, S_610, hc611, H⟩ := gc_e H
      refine GA.callW (m_L_undo hO hc611) xs_L_178 dL_law_1101 rfl (by omega) (by decide) rfl (Nat.le_of_ble_eq_true rfl) (by omega) (by omega) (fun E S9 hx => hx) (fun v S9 hq => ?_)
      obtain ⟨rfl, rfl⟩ := hq
      refine GA.istore dL_law_1104 (by decide) ?_
      refine GA.aload_n dL_law_1106 rfl ?_
      obtain ⟨x612, S_613, hc614, H⟩ := gc_e H
      refine GA.callV (m_X12_undo hL hc614) xs_L_180 dL_law_1107 (gs_500 hL) (by decide) rfl rfl (by omega) (by decide) rfl (Nat.le_of_ble_eq_true rfl) (by omega) (by omega) rfl (fun E S9 hx => hx.elim) (fun v S9 hq => ?_)
      obtain ⟨rfl, rfl⟩ := hq
      refine GA.istore dL_law_1110 (by decide) ?_
      refine GA.aload_n dL_law_1112 rfl ?_
      obtain ⟨x615, S_616, hc617, H⟩ := gc_e H
      refine GA.callV (m_X12_thrown hL hc617) xs_L_131 dL_law_1113 (gs_500 hL) (by decide) rfl rfl (by omega) (by decide) rfl (Nat.le_of_ble_eq_true rfl) (by omega) (by omega) rfl (fun E S9 hx => hx.elim) (fun v S9 hq => ?_)
      obtain ⟨rfl, rfl⟩ := hq
      refine GA.iload dL_law_1116 rfl ?_
      obtain ⟨hg618, H⟩ := gg_e H
      obtain ⟨hg619, H⟩ := gg_e H
      refine GV.icmp_eq (tgt := 1123) hg618 hg619 dL_law_1118 (by decide) (fun c620 => ?_) (fun c620 => ?_)
      · have H := it_t H c620
        refine GA.iload dL_law_1123 rfl ?_
        refine GV.if_ne (tgt := 1140) hg619 dL_law_1125 (by decide) (fun c621 => ?_) (fun c621 => ?_)
        · have H := it_t H c621
          refine GA.goto (tgt := 2279) dL_law_1140 (by decide) ?_
          refine GA.locals [(0, .ref Z.1.1), (1, .ref (L 468)), (2, .ref (L 500)), (3, .ref (L 600)), (4, .int (J a4))] ⟨rfl, rfl, rfl, rfl, rfl, trivial⟩ ?_
          exact ih_2279 hL hO _ _ (a4) _ _ H _ _ (by omega)
        · have H := it_f H c621
          refine GA.aload_n dL_law_1128 rfl ?_
          refine GA.iconst dL_law_1129 ?_
          obtain ⟨x622, hx623, H⟩ := gv_e H
          refine GV.laldO hO hx623 dL_law_1130 ?_
          refine GA.iload dL_law_1131 rfl ?_
          obtain ⟨hg624, H⟩ := gg_e H
          refine GV.i2l hg624 dL_law_1133 ?_
          obtain ⟨hg625, H⟩ := gg_e H
          obtain ⟨hg626, H⟩ := gg_e H
          obtain ⟨x627, hx628, H⟩ := gv_e H
          refine GV.lcmp hg625 hg626 hx628 dL_law_1134 ?_
          obtain ⟨hg629, H⟩ := gg_e H
          refine GV.if_eq (tgt := 1140) hg629 dL_law_1135 (by decide) (fun c630 => ?_) (fun c630 => ?_)
          · have H := it_t H c630
            refine GA.goto (tgt := 2279) dL_law_1140 (by decide) ?_
            refine GA.locals [(0, .ref Z.1.1), (1, .ref (L 468)), (2, .ref (L 500)), (3, .ref (L 600)), (4, .int (J a4))] ⟨rfl, rfl, rfl, rfl, rfl, trivial⟩ ?_
            exact ih_2279 hL hO _ _ (a4) _ _ H _ _ (by omega)
          · have H := it_f H c630
            refine GA.iconst dL_law_1138 ?_
            cases H
            exact GV.zret (by decide) rfl dL_law_1139 (by omega) (by omega) ⟨rfl, rfl⟩
      · have H := it_f H c620
        refine GA.iconst dL_law_1121 ?_
        cases H
        exact GV.zret (by decide) rfl dL_law_1122 (by omega) (by omega) ⟨rfl, rfl⟩
    have H := it_f H c607
    by_cases c631 : x9 = 15
    · have H := it_t H c631
      refine GA.tableIn (tgt := 1143) dL_law_39 hg11 (by omega) (by omega) (by rw [c631] <;> rfl) (by decide) ?_
      refine GA.aload_n dL_law_1143 rfl ?_
      refine GA.aload_n dL_law_1144 rfl ?_
      refine GA.iload dL_law_1145 rfl ?_
      refine GA.iconst dL_law_1147 ?_
      obtain ⟨x632, hx633, H⟩ := gv_e H
      refine GV.iadd hx633 dL_law_1148 ?_
      obtain ⟨hg634, H⟩ := gg_e H
      obtain ⟨x635, hx636, H⟩ := gv_e H
      refine GV.sld hg634 hx636 dL_law_1149 ?_
      refine GA.aload_n dL_law_1150 rfl ?_
      obtain ⟨hg637, H⟩ := gg_e H
      obtain ⟨x638, S_639, hc640, H⟩ := gc_e H
      refine GA.callW (m_L_select hO hc640) xs_L_181 dL_law_1151 rfl (by omega) (by decide) rfl (Nat.le_of_ble_eq_true rfl) (by omega) (by omega) (fun E S9 hx => hx) (fun v S9 hq => ?_)
      obtain ⟨rfl, rfl⟩ := hq
      refine GA.istore dL_law_1154 (by decide) ?_
      refine GA.aload_n dL_law_1156 rfl ?_
      refine GA.aload_n dL_law_1157 rfl ?_
      refine GA.iload dL_law_1158 rfl ?_
      refine GA.iconst dL_law_1160 ?_
      obtain ⟨x641, hx642, H⟩ := gv_e H
      refine GV.iadd hx642 dL_law_1161 ?_
      obtain ⟨hg643, H⟩ := gg_e H
      obtain ⟨x644, hx645, H⟩ := gv_e H
      refine GV.sld hg643 hx645 dL_law_1162 ?_
      obtain ⟨x646, S_647, hc648, H⟩ := gc_e H
      refine GA.callV (m_X12_select hL hc648) xs_L_183 dL_law_1163 (gs_500 hL) (by decide) rfl rfl (by omega) (by decide) rfl (Nat.le_of_ble_eq_true rfl) (by omega) (by omega) rfl (fun E S9 hx => hx.elim) (fun v S9 hq => ?_)
      obtain ⟨rfl, rfl⟩ := hq
      refine GA.istore dL_law_1166 (by decide) ?_
      refine GA.aload_n dL_law_1168 rfl ?_
      obtain ⟨x649, S_650, hc651, H⟩ := gc_e H
      refine GA.callV (m_X12_thrown hL hc651) xs_L_131 dL_law_1169 (gs_500 hL) (by decide) rfl rfl (by omega) (by decide) rfl (Nat.le_of_ble_eq_true rfl) (by omega) (by omega) rfl (fun E S9 hx => hx.elim) (fun v S9 hq => ?_)
      obtain ⟨rfl, rfl⟩ := hq
      refine GA.iload dL_law_1172 rfl ?_
      obtain ⟨hg652, H⟩ := gg_e H
      obtain ⟨hg653, H⟩ := gg_e H
      refine GV.icmp_eq (tgt := 1179) hg652 hg653 dL_law_1174 (by decide) (fun c654 => ?_) (fun c654 => ?_)
      · have H := it_t H c654
        refine GA.iload dL_law_1179 rfl ?_
        refine GV.if_ne (tgt := 1196) hg653 dL_law_1181 (by decide) (fun c655 => ?_) (fun c655 => ?_)
        · have H := it_t H c655
          refine GA.goto (tgt := 2279) dL_law_1196 (by decide) ?_
          refine GA.locals [(0, .ref Z.1.1), (1, .ref (L 468)), (2, .ref (L 500)), (3, .ref (L 600)), (4, .int (J a4))] ⟨rfl, rfl, rfl, rfl, rfl, trivial⟩ ?_
          exact ih_2279 hL hO _ _ (a4) _ _ H _ _ (by omega)
        · have H := it_f H c655
          refine GA.aload_n dL_law_1184 rfl ?_
          refine GA.iconst dL_law_1185 ?_
          obtain ⟨x656, hx657, H⟩ := gv_e H
          refine GV.laldO hO hx657 dL_law_1186 ?_
          refine GA.iload dL_law_1187 rfl ?_
          obtain ⟨hg658, H⟩ := gg_e H
          refine GV.i2l hg658 dL_law_1189 ?_
          obtain ⟨hg659, H⟩ := gg_e H
          obtain ⟨hg660, H⟩ := gg_e H
          obtain ⟨x661, hx662, H⟩ := gv_e H
          refine GV.lcmp hg659 hg660 hx662 dL_law_1190 ?_
          obtain ⟨hg663, H⟩ := gg_e H
          refine GV.if_eq (tgt := 1196) hg663 dL_law_1191 (by decide) (fun c664 => ?_) (fun c664 => ?_)
          · have H := it_t H c664
            refine GA.goto (tgt := 2279) dL_law_1196 (by decide) ?_
            refine GA.locals [(0, .ref Z.1.1), (1, .ref (L 468)), (2, .ref (L 500)), (3, .ref (L 600)), (4, .int (J a4))] ⟨rfl, rfl, rfl, rfl, rfl, trivial⟩ ?_
            exact ih_2279 hL hO _ _ (a4) _ _ H _ _ (by omega)
          · have H := it_f H c664
            refine GA.iconst dL_law_1194 ?_
            cases H
            exact GV.zret (by decide) rfl dL_law_1195 (by omega) (by omega) ⟨rfl, rfl⟩
      · have H := it_f H c654
        refine GA.iconst dL_law_1177 ?_
        cases H
        exact GV.zret (by decide) rfl dL_law_1178 (by omega) (by omega) ⟨rfl, rfl⟩
    have H := it_f H c631
    by_cases c665 : x9 = 16
    · have H := it_t H c665
      refine GA.tableIn (tgt := 1199) dL_law_39 hg11 (by omega) (by omega) (by rw [c665] <;> rfl) (by decide) ?_
      refine GA.aload_n dL_law_1199 rfl ?_
      refine GA.aload_n dL_law_1200 rfl ?_
      refine GA.iload dL_law_1201 rfl ?_
      refine GA.iconst dL_law_1203 ?_
      obtain ⟨x666, hx667, H⟩ := gv_e H
      refine GV.iadd hx667 dL_law_1204 ?_
      obtain ⟨hg668, H⟩ := gg_e H
      obtain ⟨x669, hx670, H⟩ := gv_e H
      refine GV.sld hg668 hx670 dL_law_1205 ?_
      refine GA.aload_n dL_law_1206 rfl ?_
      obtain ⟨hg671, H⟩ := gg_e H
      obtain ⟨x672, S_673, hc674, H⟩ := gc_e H
      refine GA.callW (m_L_find hO hc674) xs_L_184 dL_law_1207 rfl (by omega) (by decide) rfl (Nat.le_of_ble_eq_true rfl) (by omega) (by omega) (fun E S9 hx => hx) (fun v S9 hq => ?_)
      obtain ⟨rfl, rfl⟩ := hq
      refine GA.istore dL_law_1210 (by decide) ?_
      refine GA.aload_n dL_law_1212 rfl ?_
      refine GA.aload_n dL_law_1213 rfl ?_
      refine GA.iload dL_law_1214 rfl ?_
      refine GA.iconst dL_law_1216 ?_
      obtain ⟨x675, hx676, H⟩ := gv_e H
      refine GV.iadd hx676 dL_law_1217 ?_
      obtain ⟨hg677, H⟩ := gg_e H
      obtain ⟨x678, hx679, H⟩ := gv_e H
      refine GV.sld hg677 hx679 dL_law_1218 ?_
      obtain ⟨x680, S_681, hc682, H⟩ := gc_e H
      refine GA.callV (m_X12_find hL hc682) xs_L_186 dL_law_1219 (gs_500 hL) (by decide) rfl rfl (by omega) (by decide) rfl (Nat.le_of_ble_eq_true rfl) (by omega) (by omega) rfl (fun E S9 hx => hx.elim) (fun v S9 hq => ?_)
      obtain ⟨rfl, rfl⟩ := hq
      refine GA.istore dL_law_1222 (by decide) ?_
      refine GA.aload_n dL_law_1224 rfl ?_
      obtain ⟨x683, S_684, hc685, H⟩ := gc_e H
      refine GA.callV (m_X12_thrown hL hc685) xs_L_131 dL_law_1225 (gs_500 hL) (by decide) rfl rfl (by omega) (by decide) rfl (Nat.le_of_ble_eq_true rfl) (by omega) (by omega) rfl (fun E S9 hx => hx.elim) (fun v S9 hq => ?_)
      obtain ⟨rfl, rfl⟩ := hq
      refine GA.iload dL_law_1228 rfl ?_
      obtain ⟨hg686, H⟩ := gg_e H
      obtain ⟨hg687, H⟩ := gg_e H
      refine GV.icmp_eq (tgt := 1235) hg686 hg687 dL_law_1230 (by decide) (fun c688 => ?_) (fun c688 => ?_)
      · have H := it_t H c688
        refine GA.iload dL_law_1235 rfl ?_
        refine GV.if_ne (tgt := 1252) hg687 dL_law_1237 (by decide) (fun c689 => ?_) (fun c689 => ?_)
        · have H := it_t H c689
          refine GA.goto (tgt := 2279) dL_law_1252 (by decide) ?_
          refine GA.locals [(0, .ref Z.1.1), (1, .ref (L 468)), (2, .ref (L 500)), (3, .ref (L 600)), (4, .int (J a4))] ⟨rfl, rfl, rfl, rfl, rfl, trivial⟩ ?_
          exact ih_2279 hL hO _ _ (a4) _ _ H _ _ (by omega)
        · have H := it_f H c689
          refine GA.aload_n dL_law_1240 rfl ?_
          refine GA.iconst dL_law_1241 ?_
          obtain ⟨x690, hx691, H⟩ := gv_e H
          refine GV.laldO hO hx691 dL_law_1242 ?_
          refine GA.iload dL_law_1243 rfl ?_
          obtain ⟨hg692, H⟩ := gg_e H
          refine GV.i2l hg692 dL_law_1245 ?_
          obtain ⟨hg693, H⟩ := gg_e H
          obtain ⟨hg694, H⟩ := gg_e H
          obtain ⟨x695, hx696, H⟩ := gv_e H
          refine GV.lcmp hg693 hg694 hx696 dL_law_1246 ?_
          obtain ⟨hg697, H⟩ := gg_e H
          refine GV.if_eq (tgt := 1252) hg697 dL_law_1247 (by decide) (fun c698 => ?_) (fun c698 => ?_)
          · have H := it_t H c698
            refine GA.goto (tgt := 2279) dL_law_1252 (by decide) ?_
            refine GA.locals [(0, .ref Z.1.1), (1, .ref (L 468)), (2, .ref (L 500)), (3, .ref (L 600)), (4, .int (J a4))] ⟨rfl, rfl, rfl, rfl, rfl, trivial⟩ ?_
            exact ih_2279 hL hO _ _ (a4) _ _ H _ _ (by omega)
          · have H := it_f H c698
            refine GA.iconst dL_law_1250 ?_
            cases H
            exact GV.zret (by decide) rfl dL_law_1251 (by omega) (by omega) ⟨rfl, rfl⟩
      · have H := it_f H c688
        refine GA.iconst dL_law_1233 ?_
        cases H
        exact GV.zret (by decide) rfl dL_law_1234 (by omega) (by omega) ⟨rfl, rfl⟩
    have H := it_f H c665
    by_cases c699 : x9 = 17
    · have H := it_t H c699
      refine GA.tableIn (tgt := 1255) dL_law_39 hg11 (by omega) (by omega) (by rw [c699] <;> rfl) (by decide) ?_
      refine GA.aload_n dL_law_1255 rfl ?_
      refine GA.aload_n dL_law_1256 rfl ?_
      refine GA.iload dL_law_1257 rfl ?_
      refine GA.iconst dL_law_1259 ?_
      obtain ⟨x700, hx701, H⟩ := gv_e H
      refine GV.iadd hx701 dL_law_1260 ?_
      obtain ⟨hg702, H⟩ := gg_e H
      obtain ⟨x703, hx704, H⟩ := gv_e H
      refine GV.sld hg702 hx704 dL_law_1261 ?_
      refine GA.aload_n dL_law_1262 rfl ?_
      refine GA.iload dL_law_1263 rfl ?_
      refine GA.iconst dL_law_1265 ?_
      obtain ⟨x705, hx706, H⟩ := gv_e H
      refine GV.iadd hx706 dL_law_1266 ?_
      obtain ⟨hg707, H⟩ := gg_e H
      obtain ⟨x708, hx709, H⟩ := gv_e H
      refine GV.sld hg707 hx709 dL_law_1267 ?_
      refine GA.aload_n dL_law_1268 rfl ?_
      obtain ⟨hg710, H⟩ := gg_e H
      obtain ⟨x711, S_712, hc713, H⟩ := gc_e H
      refine GA.callW (m_L_put hO hc713) xs_L_187 dL_law_1269 rfl (by omega) (by decide) rfl (Nat.le_of_ble_eq_true rfl) (by omega) (by omega) (fun E S9 hx => hx) (fun v S9 hq => ?_)
      obtain ⟨rfl, rfl⟩ := hq
      refine GA.istore dL_law_1272 (by decide) ?_
      refine GA.aload_n dL_law_1274 rfl ?_
      refine GA.aload_n dL_law_1275 rfl ?_
      refine GA.iload dL_law_1276 rfl ?_
      refine GA.iconst dL_law_1278 ?_
      obtain ⟨x714, hx715, H⟩ := gv_e H
      refine GV.iadd hx715 dL_law_1279 ?_
      obtain ⟨hg716, H⟩ := gg_e H
      obtain ⟨x717, hx718, H⟩ := gv_e H
      refine GV.sld hg716 hx718 dL_law_1280 ?_
      refine GA.aload_n dL_law_1281 rfl ?_
      refine GA.iload dL_law_1282 rfl ?_
      refine GA.iconst dL_law_1284 ?_
      obtain ⟨x719, hx720, H⟩ := gv_e H
      refine GV.iadd hx720 dL_law_1285 ?_
      obtain ⟨hg721, H⟩ := gg_e H
      obtain ⟨x722, hx723, H⟩ := gv_e H
      refine GV.sld hg721 hx723 dL_law_1286 ?_
      obtain ⟨x724, S_725, hc726, H⟩ := gc_e H
      refine GA.callV (m_X12_put hL hc726) xs_L_189 dL_law_1287 (gs_500 hL) (by decide) rfl rfl (by omega) (by decide) rfl (Nat.le_of_ble_eq_true rfl) (by omega) (by omega) rfl (fun E S9 hx => hx.elim) (fun v S9 hq => ?_)
      obtain ⟨rfl, rfl⟩ := hq
      refine GA.istore dL_law_1290 (by decide) ?_
      refine GA.aload_n dL_law_1292 rfl ?_
      obtain ⟨x727, S_728, hc729, H⟩ := gc_e H
      refine GA.callV (m_X12_thrown hL hc729) xs_L_131 dL_law_1293 (gs_500 hL) (by decide) rfl rfl (by omega) (by decide) rfl (Nat.le_of_ble_eq_true rfl) (by omega) (by omega) rfl (fun E S9 hx => hx.elim) (fun v S9 hq => ?_)
      obtain ⟨rfl, rfl⟩ := hq
      refine GA.iload dL_law_1296 rfl ?_
      obtain ⟨hg730, H⟩ := gg_e H
      obtain ⟨hg731, H⟩ := gg_e H
      refine GV.icmp_eq (tgt := 1303) hg730 hg731 dL_law_1298 (by decide) (fun c732 => ?_) (fun c732 => ?_)
      · have H := it_t H c732
        refine GA.iload dL_law_1303 rfl ?_
        refine GV.if_ne (tgt := 1320) hg731 dL_law_1305 (by decide) (fun c733 => ?_) (fun c733 => ?_)
        · have H := it_t H c733
          refine GA.goto (tgt := 2279) dL_law_1320 (by decide) ?_
          refine GA.locals [(0, .ref Z.1.1), (1, .ref (L 468)), (2, .ref (L 500)), (3, .ref (L 600)), (4, .int (J a4))] ⟨rfl, rfl, rfl, rfl, rfl, trivial⟩ ?_
          exact ih_2279 hL hO _ _ (a4) _ _ H _ _ (by omega)
        · have H := it_f H c733
          refine GA.aload_n dL_law_1308 rfl ?_
          refine GA.iconst dL_law_1309 ?_
          obtain ⟨x734, hx735, H⟩ := gv_e H
          refine GV.laldO hO hx735 dL_law_1310 ?_
          refine GA.iload dL_law_1311 rfl ?_
          obtain ⟨hg736, H⟩ := gg_e H
          refine GV.i2l hg736 dL_law_1313 ?_
          obtain ⟨hg737, H⟩ := gg_e H
          obtain ⟨hg738, H⟩ := gg_e H
          obtain ⟨x739, hx740, H⟩ := gv_e H
          refine GV.lcmp hg737 hg738 hx740 dL_law_1314 ?_
          obtain ⟨hg741, H⟩ := gg_e H
          refine GV.if_eq (tgt := 1320) hg741 dL_law_1315 (by decide) (fun c742 => ?_) (fun c742 => ?_)
          · have H := it_t H c742
            refine GA.goto (tgt := 2279) dL_law_1320 (by decide) ?_
            refine GA.locals [(0, .ref Z.1.1), (1, .ref (L 468)), (2, .ref (L 500)), (3, .ref (L 600)), (4, .int (J a4))] ⟨rfl, rfl, rfl, rfl, rfl, trivial⟩ ?_
            exact ih_2279 hL hO _ _ (a4) _ _ H _ _ (by omega)
          · have H := it_f H c742
            refine GA.iconst dL_law_1318 ?_
            cases H
            exact GV.zret (by decide) rfl dL_law_1319 (by omega) (by omega) ⟨rfl, rfl⟩
      · have H := it_f H c732
        refine GA.iconst dL_law_1301 ?_
        cases H
        exact GV.zret (by decide) rfl dL_law_1302 (by omega) (by omega) ⟨rfl, rfl⟩
    have H := it_f H c699
    by_cases c743 : x9 = 18
    · have H := it_t H c743
      refine GA.tableIn (tgt := 1323) dL_law_39 hg11 (by omega) (by omega) (by rw [c743] <;> rfl) (by decide) ?_
      refine GA.aload_n dL_law_1323 rfl ?_
      refine GA.aload_n dL_law_1324 rfl ?_
      refine GA.iload dL_law_1325 rfl ?_
      refine GA.iconst dL_law_1327 ?_
      obtain ⟨x744, hx745, H⟩ := gv_e H
      refine GV.iadd hx745 dL_law_1328 ?_
      obtain ⟨hg746, H⟩ := gg_e H
      obtain ⟨x747, hx748, H⟩ := gv_e H
      refine GV.sld hg746 hx748 dL_law_1329 ?_
      refine GA.aload_n dL_law_1330 rfl ?_
      obtain ⟨hg749, H⟩ := gg_e H
      obtain ⟨x750, S_751, hc752, H⟩ := gc_e H
      refine GA.callW (m_L_cut hO hc752) xs_L_190 dL_law_1331 rfl (by omega) (by decide) rfl (Nat.le_of_ble_eq_true rfl) (by omega) (by omega) (fun E S9 hx => hx) (fun v S9 hq => ?_)
      obtain ⟨rfl, rfl⟩ := hq
      refine GA.istore dL_law_1334 (by decide) ?_
      refine GA.aload_n dL_law_1336 rfl ?_
      refine GA.aload_n dL_law_1337 rfl ?_
      refine GA.iload dL_law_1338 rfl ?_
      refine GA.iconst dL_law_1340 ?_
      obtain ⟨x753, hx754, H⟩ := gv_e H
      refine GV.iadd hx754 dL_law_1341 ?_
      obtain ⟨hg755, H⟩ := gg_e H
      obtain ⟨x756, hx757, H⟩ := gv_e H
      refine GV.sld hg755 hx757 dL_law_1342 ?_
      obtain ⟨x758, S_759, hc760, H⟩ := gc_e H
      refine GA.callV (m_X12_cut hL hc760) xs_L_192 dL_law_1343 (gs_500 hL) (by decide) rfl rfl (by omega) (by decide) rfl (Nat.le_of_ble_eq_true rfl) (by omega) (by omega) rfl (fun E S9 hx => hx.elim) (fun v S9 hq => ?_)
      obtain ⟨rfl, rfl⟩ := hq
      refine GA.istore dL_law_1346 (by decide) ?_
      refine GA.aload_n dL_law_1348 rfl ?_
      obtain ⟨x761, S_762, hc763, H⟩ := gc_e H
      refine GA.callV (m_X12_thrown hL hc763) xs_L_131 dL_law_1349 (gs_500 hL) (by decide) rfl rfl (by omega) (by decide) rfl (Nat.le_of_ble_eq_true rfl) (by omega) (by omega) rfl (fun E S9 hx => hx.elim) (fun v S9 hq => ?_)
      obtain ⟨rfl, rfl⟩ := hq
      refine GA.iload dL_law_1352 rfl ?_
      obtain ⟨hg764, H⟩ := gg_e H
      obtain ⟨hg765, H⟩ := gg_e H
      refine GV.icmp_eq (tgt := 1359) hg764 hg765 dL_law_1354 (by decide) (fun c766 => ?_) (fun c766 => ?_)
      · have H := it_t H c766
        refine GA.iload dL_law_1359 rfl ?_
        refine GV.if_ne (tgt := 1376) hg765 dL_law_1361 (by decide) (fun c767 => ?_) (fun c767 => ?_)
        · have H := it_t H c767
          refine GA.goto (tgt := 2279) dL_law_1376 (by decide) ?_
          refine GA.locals [(0, .ref Z.1.1), (1, .ref (L 468)), (2, .ref (L 500)), (3, .ref (L 600)), (4, .int (J a4))] ⟨rfl, rfl, rfl, rfl, rfl, trivial⟩ ?_
          exact ih_2279 hL hO _ _ (a4) _ _ H _ _ (by omega)
        · have H := it_f H c767
          refine GA.aload_n dL_law_1364 rfl ?_
          refine GA.iconst dL_law_1365 ?_
          obtain ⟨x768, hx769, H⟩ := gv_e H
          refine GV.laldO hO hx769 dL_law_1366 ?_
          refine GA.iload dL_law_1367 rfl ?_
          obtain ⟨hg770, H⟩ := gg_e H
          refine GV.i2l hg770 dL_law_1369 ?_
          obtain ⟨hg771, H⟩ := gg_e H
          obtain ⟨hg772, H⟩ := gg_e H
          obtain ⟨x773, hx774, H⟩ := gv_e H
          refine GV.lcmp hg771 hg772 hx774 dL_law_1370 ?_
          obtain ⟨hg775, H⟩ := gg_e H
          refine GV.if_eq (tgt := 1376) hg775 dL_law_1371 (by decide) (fun c776 => ?_) (fun c776 => ?_)
          · have H := it_t H c776
            refine GA.goto (tgt := 2279) dL_law_1376 (by decide) ?_
            refine GA.locals [(0, .ref Z.1.1), (1, .ref (L 468)), (2, .ref (L 500)), (3, .ref (L 600)), (4, .int (J a4))] ⟨rfl, rfl, rfl, rfl, rfl, trivial⟩ ?_
            exact ih_2279 hL hO _ _ (a4) _ _ H _ _ (by omega)
          · have H := it_f H c776
            refine GA.iconst dL_law_1374 ?_
            cases H
            exact GV.zret (by decide) rfl dL_law_1375 (by omega) (by omega) ⟨rfl, rfl⟩
      · have H := it_f H c766
        refine GA.iconst dL_law_1357 ?_
        cases H
        exact GV.zret (by decide) rfl dL_law_1358 (by omega) (by omega) ⟨rfl, rfl⟩
    have H := it_f H c743
    by_cases c777 : x9 = 19
    · have H := it_t H c777
      refine GA.tableIn (tgt := 1379) dL_law_39 hg11 (by omega) (by omega) (by rw [c777] <;> rfl) (by decide) ?_
      refine GA.aload_n dL_law_1379 rfl ?_
      refine GA.aload_n dL_law_1380 rfl ?_
      refine GA.iload dL_law_1381 rfl ?_
      refine GA.iconst dL_law_1383 ?_
      obtain ⟨x778, hx779, H⟩ := gv_e H
      refine GV.iadd hx779 dL_law_1384 ?_
      obtain ⟨hg780, H⟩ := gg_e H
      obtain ⟨x781, hx782, H⟩ := gv_e H
      refine GV.sld hg780 hx782 dL_law_1385 ?_
      refine GA.aload_n dL_law_1386 rfl ?_
      refine GA.iload dL_law_1387 rfl ?_
      refine GA.iconst dL_law_1389 ?_
      obtain ⟨x783, hx784, H⟩ := gv_e H
      refine GV.iadd hx784 dL_law_1390 ?_
      obtain ⟨hg785, H⟩ := gg_e H
      obtain ⟨x786, hx787, H⟩ := gv_e H
      refine GV.sld hg785 hx787 dL_law_1391 ?_
      refine GA.aload_n dL_law_1392 rfl ?_
      obtain ⟨hg788, H⟩ := gg_e H
      obtain ⟨x789, S_790, hc791, H⟩ := gc_e H
      refine GA.callW (m_L_lay hO hc791) xs_L_193 dL_law_1393 rfl (by omega) (by decide) rfl (Nat.le_of_ble_eq_true rfl) (by omega) (by omega) (fun E S9 hx => hx) (fun v S9 hq => ?_)
      obtain ⟨rfl, rfl⟩ := hq
      refine GA.istore dL_law_1396 (by decide) ?_
      refine GA.aload_n dL_law_1398 rfl ?_
      refine GA.aload_n dL_law_1399 rfl ?_
      refine GA.iload dL_law_1400 rfl ?_
      refine GA.iconst dL_law_1402 ?_
      obtain ⟨x792, hx793, H⟩ := gv_e H
      refine GV.iadd hx793 dL_law_1403 ?_
      obtain ⟨hg794, H⟩ := gg_e H
      obtain ⟨x795, hx796, H⟩ := gv_e H
      refine GV.sld hg794 hx796 dL_law_1404 ?_
      refine GA.aload_n dL_law_1405 rfl ?_
      refine GA.iload dL_law_1406 rfl ?_
      refine GA.iconst dL_law_1408 ?_
      obtain ⟨x797, hx798, H⟩ := gv_e H
      refine GV.iadd hx798 dL_law_1409 ?_
      obtain ⟨hg799, H⟩ := gg_e H
      obtain ⟨x800, hx801, H⟩ := gv_e H
      refine GV.sld hg799 hx801 dL_law_1410 ?_
      obtain ⟨x802, S_803, hc804, H⟩ := gc_e H
      refine GA.callV (m_X12_lay hL hc804) xs_L_195 dL_law_1411 (gs_500 hL) (by decide) rfl rfl (by omega) (by decide) rfl (Nat.le_of_ble_eq_true rfl) (by omega) (by omega) rfl (fun E S9 hx => hx.elim) (fun v S9 hq => ?_)
      obtain ⟨rfl, rfl⟩ := hq
      refine GA.istore dL_law_1414 (by decide) ?_
      refine GA.aload_n dL_law_1416 rfl ?_
      obtain ⟨x805, S_806, hc807, H⟩ := gc_e H
      refine GA.callV (m_X12_thrown hL hc807) xs_L_131 dL_law_1417 (gs_500 hL) (by decide) rfl rfl (by omega) (by decide) rfl (Nat.le_of_ble_eq_true rfl) (by omega) (by omega) rfl (fun E S9 hx => hx.elim) (fun v S9 hq => ?_)
      obtain ⟨rfl, rfl⟩ := hq
      refine GA.iload dL_law_1420 rfl ?_
      obtain ⟨hg808, H⟩ := gg_e H
      obtain ⟨hg809, H⟩ := gg_e H
      refine GV.icmp_eq (tgt := 1427) hg808 hg809 dL_law_1422 (by decide) (fun c810 => ?_) (fun c810 => ?_)
      · have H := it_t H c810
        refine GA.iload dL_law_1427 rfl ?_
        refine GV.if_ne (tgt := 1444) hg809 dL_law_1429 (by decide) (fun c811 => ?_) (fun c811 => ?_)
        · have H := it_t H c811
          refine GA.goto (tgt := 2279) dL_law_1444 (by decide) ?_
          refine GA.locals [(0, .ref Z.1.1), (1, .ref (L 468)), (2, .ref (L 500)), (3, .ref (L 600)), (4, .int (J a4))] ⟨rfl, rfl, rfl, rfl, rfl, trivial⟩ ?_
          exact ih_2279 hL hO _ _ (a4) _ _ H _ _ (by omega)
        · have H := it_f H c811
          refine GA.aload_n dL_law_1432 rfl ?_
          refine GA.iconst dL_law_1433 ?_
          obtain ⟨x812, hx813, H⟩ := gv_e H
          refine GV.laldO hO hx813 dL_law_1434 ?_
          refine GA.iload dL_law_1435 rfl ?_
          obtain ⟨hg814, H⟩ := gg_e H
          refine GV.i2l hg814 dL_law_1437 ?_
          obtain ⟨hg815, H⟩ := gg_e H
          obtain ⟨hg816, H⟩ := gg_e H
          obtain ⟨x817, hx818, H⟩ := gv_e H
          refine GV.lcmp hg815 hg816 hx818 dL_law_1438 ?_
          obtain ⟨hg819, H⟩ := gg_e H
          refine GV.if_eq (tgt := 1444) hg819 dL_law_1439 (by decide) (fun c820 => ?_) (fun c820 => ?_)
          · have H := it_t H c820
            refine GA.goto (tgt := 2279) dL_law_1444 (by decide) ?_
            refine GA.locals [(0, .ref Z.1.1), (1, .ref (L 468)), (2, .ref (L 500)), (3, .ref (L 600)), (4, .int (J a4))] ⟨rfl, rfl, rfl, rfl, rfl, trivial⟩ ?_
            exact ih_2279 hL hO _ _ (a4) _ _ H _ _ (by omega)
          · have H := it_f H c820
            refine GA.iconst dL_law_1442 ?_
            cases H
            exact GV.zret (by decide) rfl dL_law_1443 (by omega) (by omega) ⟨rfl, rfl⟩
      · have H := it_f H c810
        refine GA.iconst dL_law_1425 ?_
        cases H
        exact GV.zret (by decide) rfl dL_law_1426 (by omega) (by omega) ⟨rfl, rfl⟩
    have H := it_f H c777
    by_cases c821 : x9 = 20
    · have H := it_t H c821
      refine GA.tableIn (tgt := 1447) dL_law_39 hg11 (by omega) (by omega) (by rw [c821] <;> rfl) (by decide) ?_
      refine GA.aload_n dL_law_1447 rfl ?_
      refine GA.aload_n dL_law_1448 rfl ?_
      refine GA.iload dL_law_1449 rfl ?_
      refine GA.iconst dL_law_1451 ?_
      obtain ⟨x822, hx823, H⟩ := gv_e H
      refine GV.iadd hx823 dL_law_1452 ?_
      obtain ⟨hg824, H⟩ := gg_e H
      obtain ⟨x825, hx826, H⟩ := gv_e H
      refine GV.sld hg824 hx826 dL_law_1453 ?_
      refine GA.aload_n dL_law_1454 rfl ?_
      refine GA.iload dL_law_1455 rfl ?_
      refine GA.iconst dL_law_1457 ?_
      obtain ⟨x827, hx828, H⟩ := gv_e H
      refine GV.iadd hx828 dL_law_1458 ?_
      obtain ⟨hg829, H⟩ := gg_e H
      obtain ⟨x830, hx831, H⟩ := gv_e H
      refine GV.sld hg829 hx831 dL_law_1459 ?_
      refine GA.aload_n dL_law_1460 rfl ?_
      obtain ⟨hg832, H⟩ := gg_e H
      obtain ⟨x833, S_834, hc835, H⟩ := gc_e H
      refine GA.callW (m_L_patch hO hc835) xs_L_196 dL_law_1461 rfl (by omega) (by decide) rfl (Nat.le_of_ble_eq_true rfl) (by omega) (by omega) (fun E S9 hx => hx) (fun v S9 hq => ?_)
      obtain ⟨rfl, rfl⟩ := hq
      refine GA.istore dL_law_1464 (by decide) ?_
      refine GA.aload_n dL_law_1466 rfl ?_
      refine GA.aload_n dL_law_1467 rfl ?_
      refine GA.iload dL_law_1468 rfl ?_
      refine GA.iconst dL_law_1470 ?_
      obtain ⟨x836, hx837, H⟩ := gv_e H
      refine GV.iadd hx837 dL_law_1471 ?_
      obtain ⟨hg838, H⟩ := gg_e H
      obtain ⟨x839, hx840, H⟩ := gv_e H
      refine GV.sld hg838 hx840 dL_law_1472 ?_
      refine GA.aload_n dL_law_1473 rfl ?_
      refine GA.iload dL_law_1474 rfl ?_
      refine GA.iconst dL_law_1476 ?_
      obtain ⟨x841, hx842, H⟩ := gv_e H
      refine GV.iadd hx842 dL_law_1477 ?_
      obtain ⟨hg843, H⟩ := gg_e H
      obtain ⟨x844, hx845, H⟩ := gv_e H
      refine GV.sld hg843 hx845 dL_law_1478 ?_
      obtain ⟨x846, S_847, hc848, H⟩ := gc_e H
      refine GA.callV (m_X12_patch hL hc848) xs_L_198 dL_law_1479 (gs_500 hL) (by decide) rfl rfl (by omega) (by decide) rfl (Nat.le_of_ble_eq_true rfl) (by omega) (by omega) rfl (fun E S9 hx => hx.elim) (fun v S9 hq => ?_)
      obtain ⟨rfl, rfl⟩ := hq
      refine GA.istore dL_law_1482 (by decide) ?_
      refine GA.aload_n dL_law_1484 rfl ?_
      obtain ⟨x849, S_850, hc851, H⟩ := gc_e H
      refine GA.callV (m_X12_thrown hL hc851) xs_L_131 dL_law_1485 (gs_500 hL) (by decide) rfl rfl (by omega) (by decide) rfl (Nat.le_of_ble_eq_true rfl) (by omega) (by omega) rfl (fun E S9 hx => hx.elim) (fun v S9 hq => ?_)
      obtain ⟨rfl, rfl⟩ := hq
      refine GA.iload dL_law_1488 rfl ?_
      obtain ⟨hg852, H⟩ := gg_e H
      obtain ⟨hg853, H⟩ := gg_e H
      refine GV.icmp_eq (tgt := 1495) hg852 hg853 dL_law_1490 (by decide) (fun c854 => ?_) (fun c854 => ?_)
      · have H := it_t H c854
        refine GA.iload dL_law_1495 rfl ?_
        refine GV.if_ne (tgt := 1512) hg853 dL_law_1497 (by decide) (fun c855 => ?_) (fun c855 => ?_)
        · have H := it_t H c855
          refine GA.goto (tgt := 2279) dL_law_1512 (by decide) ?_
          refine GA.locals [(0, .ref Z.1.1), (1, .ref (L 468)), (2, .ref (L 500)), (3, .ref (L 600)), (4, .int (J a4))] ⟨rfl, rfl, rfl, rfl, rfl, trivial⟩ ?_
          exact ih_2279 hL hO _ _ (a4) _ _ H _ _ (by omega)
        · have H := it_f H c855
          refine GA.aload_n dL_law_1500 rfl ?_
          refine GA.iconst dL_law_1501 ?_
          obtain ⟨x856, hx857, H⟩ := gv_e H
          refine GV.laldO hO hx857 dL_law_1502 ?_
          refine GA.iload dL_law_1503 rfl ?_
          obtain ⟨hg858, H⟩ := gg_e H
          refine GV.i2l hg858 dL_law_1505 ?_
          obtain ⟨hg859, H⟩ := gg_e H
          obtain ⟨hg860, H⟩ := gg_e H
          obtain ⟨x861, hx862, H⟩ := gv_e H
          refine GV.lcmp hg859 hg860 hx862 dL_law_1506 ?_
          obtain ⟨hg863, H⟩ := gg_e H
          refine GV.if_eq (tgt := 1512) hg863 dL_law_1507 (by decide) (fun c864 => ?_) (fun c864 => ?_)
          · have H := it_t H c864
            refine GA.goto (tgt := 2279) dL_law_1512 (by decide) ?_
            refine GA.locals [(0, .ref Z.1.1), (1, .ref (L 468)), (2, .ref (L 500)), (3, .ref (L 600)), (4, .int (J a4))] ⟨rfl, rfl, rfl, rfl, rfl, trivial⟩ ?_
            exact ih_2279 hL hO _ _ (a4) _ _ H _ _ (by omega)
          · have H := it_f H c864
            refine GA.iconst dL_law_1510 ?_
            cases H
            exact GV.zret (by decide) rfl dL_law_1511 (by omega) (by omega) ⟨rfl, rfl⟩
      · have H := it_f H c854
        refine GA.iconst dL_law_1493 ?_
        cases H
        exact GV.zret (by decide) rfl dL_law_1494 (by omega) (by omega) ⟨rfl, rfl⟩
    have H := it_f H c821
    by_cases c865 : x9 = 21
    · have H := it_t H c865
      refine GA.tableIn (tgt := 1515) dL_law_39 hg11 (by omega) (by omega) (by rw [c865] <;> rfl) (by decide) ?_
      refine GA.aload_n dL_law_1515 rfl ?_
      refine GA.aload_n dL_law_1516 rfl ?_
      refine GA.iload dL_law_1517 rfl ?_
      refine GA.iconst dL_law_1519 ?_
      obtain ⟨x866, hx867, H⟩ := gv_e H
      refine GV.iadd hx867 dL_law_1520 ?_
      obtain ⟨hg868, H⟩ := gg_e H
      obtain ⟨x869, hx870, H⟩ := gv_e H
      refine GV.sld hg868 hx870 dL_law_1521 ?_
      refine GA.aload_n dL_law_1522 rfl ?_
      refine GA.iload dL_law_1523 rfl ?_
      refine GA.iconst dL_law_1525 ?_
      obtain ⟨x871, hx872, H⟩ := gv_e H
      refine GV.iadd hx872 dL_law_1526 ?_
      obtain ⟨hg873, H⟩ := gg_e H
      obtain ⟨x874, hx875, H⟩ := gv_e H
      refine GV.sld hg873 hx875 dL_law_1527 ?_
      refine GA.aload_n dL_law_1528 rfl ?_
      obtain ⟨hg876, H⟩ := gg_e H
      obtain ⟨x877, S_878, hc879, H⟩ := gc_e H
      refine GA.callW (m_L_turn hO hc879) xs_L_199 dL_law_1529 rfl (by omega) (by decide) rfl (Nat.le_of_ble_eq_true rfl) (by omega) (by omega) (fun E S9 hx => hx) (fun v S9 hq => ?_)
      obtain ⟨rfl, rfl⟩ := hq
      refine GA.istore dL_law_1532 (by decide) ?_
      refine GA.aload_n dL_law_1534 rfl ?_
      refine GA.aload_n dL_law_1535 rfl ?_
      refine GA.iload dL_law_1536 rfl ?_
      refine GA.iconst dL_law_1538 ?_
      obtain ⟨x880, hx881, H⟩ := gv_e H
      refine GV.iadd hx881 dL_law_1539 ?_
      obtain ⟨hg882, H⟩ := gg_e H
      obtain ⟨x883, hx884, H⟩ := gv_e H
      refine GV.sld hg882 hx884 dL_law_1540 ?_
      refine GA.aload_n dL_law_1541 rfl ?_
      refine GA.iload dL_law_1542 rfl ?_
      refine GA.iconst dL_law_1544 ?_
      obtain ⟨x885, hx886, H⟩ := gv_e H
      refine GV.iadd hx886 dL_law_1545 ?_
      obtain ⟨hg887, H⟩ := gg_e H
      obtain ⟨x888, hx889, H⟩ := gv_e H
      refine GV.sld hg887 hx889 dL_law_1546 ?_
      obtain ⟨x890, S_891, hc892, H⟩ := gc_e H
      refine GA.callV (m_X12_turn hL hc892) xs_L_201 dL_law_1547 (gs_500 hL) (by decide) rfl rfl (by omega) (by decide) rfl (Nat.le_of_ble_eq_true rfl) (by omega) (by omega) rfl (fun E S9 hx => hx.elim) (fun v S9 hq => ?_)
      obtain ⟨rfl, rfl⟩ := hq
      refine GA.istore dL_law_1550 (by decide) ?_
      refine GA.aload_n dL_law_1552 rfl ?_
      obtain ⟨x893, S_894, hc895, H⟩ := gc_e H
      refine GA.callV (m_X12_thrown hL hc895) xs_L_131 dL_law_1553 (gs_500 hL) (by decide) rfl rfl (by omega) (by decide) rfl (Nat.le_of_ble_eq_true rfl) (by omega) (by omega) rfl (fun E S9 hx => hx.elim) (fun v S9 hq => ?_)
      obtain ⟨rfl, rfl⟩ := hq
      refine GA.iload dL_law_1556 rfl ?_
      obtain ⟨hg896, H⟩ := gg_e H
      obtain ⟨hg897, H⟩ := gg_e H
      refine GV.icmp_eq (tgt := 1563) hg896 hg897 dL_law_1558 (by decide) (fun c898 => ?_) (fun c898 => ?_)
      · have H := it_t H c898
        refine GA.iload dL_law_1563 rfl ?_
        refine GV.if_ne (tgt := 1580) hg897 dL_law_1565 (by decide) (fun c899 => ?_) (fun c899 => ?_)
        · have H := it_t H c899
          refine GA.goto (tgt := 2279) dL_law_1580 (by decide) ?_
          refine GA.locals [(0, .ref Z.1.1), (1, .ref (L 468)), (2, .ref (L 500)), (3, .ref (L 600)), (4, .int (J a4))] ⟨rfl, rfl, rfl, rfl, rfl, trivial⟩ ?_
          exact ih_2279 hL hO _ _ (a4) _ _ H _ _ (by omega)
        · have H := it_f H c899
          refine GA.aload_n dL_law_1568 rfl ?_
          refine GA.iconst dL_law_1569 ?_
          obtain ⟨x900, hx901, H⟩ := gv_e H
          refine GV.laldO hO hx901 dL_law_1570 ?_
          refine GA.iload dL_law_1571 rfl ?_
          obtain ⟨hg902, H⟩ := gg_e H
          refine GV.i2l hg902 dL_law_1573 ?_
          obtain ⟨hg903, H⟩ := gg_e H
          obtain ⟨hg904, H⟩ := gg_e H
          obtain ⟨x905, hx906, H⟩ := gv_e H
          refine GV.lcmp hg903 hg904 hx906 dL_law_1574 ?_
          obtain ⟨hg907, H⟩ := gg_e H
          refine GV.if_eq (tgt := 1580) hg907 dL_law_1575 (by decide) (fun c908 => ?_) (fun c908 => ?_)
          · have H := it_t H c908
            refine GA.goto (tgt := 2279) dL_law_1580 (by decide) ?_
            refine GA.locals [(0, .ref Z.1.1), (1, .ref (L 468)), (2, .ref (L 500)), (3, .ref (L 600)), (4, .int (J a4))] ⟨rfl, rfl, rfl, rfl, rfl, trivial⟩ ?_
            exact ih_2279 hL hO _ _ (a4) _ _ H _ _ (by omega)
          · have H := it_f H c908
            refine GA.iconst dL_law_1578 ?_
            cases H
            exact GV.zret (by decide) rfl dL_law_1579 (by omega) (by omega) ⟨rfl, rfl⟩
      · have H := it_f H c898
        refine GA.iconst dL_law_1561 ?_
        cases H
        exact GV.zret (by decide) rfl dL_law_1562 (by omega) (by omega) ⟨rfl, rfl⟩
    have H := it_f H c865
    by_cases c909 : x9 = 22
    · have H := it_t H c909
      refine GA.tableIn (tgt := 1583) dL_law_39 hg11 (by omega) (by omega) (by rw [c909] <;> rfl) (by decide) ?_
      refine GA.aload_n dL_law_1583 rfl ?_
      refine GA.aload_n dL_law_1584 rfl ?_
      refine GA.iload dL_law_1585 rfl ?_
      refine GA.iconst dL_law_1587 ?_
      obtain ⟨x910, hx911, H⟩ := gv_e H
      refine GV.iadd hx911 dL_law_1588 ?_
      obtain ⟨hg912, H⟩ := gg_e H
      obtain ⟨x913, hx914, H⟩ := gv_e H
      refine GV.sld hg912 hx914 dL_law_1589 ?_
      refine GA.aload_n dL_law_1590 rfl ?_
      refine GA.iload dL_law_1591 rfl ?_
      refine GA.iconst dL_law_1593 ?_
      obtain ⟨x915, hx916, H⟩ := gv_e H
      refine GV.iadd hx916 dL_law_1594 ?_
      obtain ⟨hg917, H⟩ := gg_e H
      obtain ⟨x918, hx919, H⟩ := gv_e H
      refine GV.sld hg917 hx919 dL_law_1595 ?_
      refine GA.aload_n dL_law_1596 rfl ?_
      refine GA.iload dL_law_1597 rfl ?_
      refine GA.iconst dL_law_1599 ?_
      obtain ⟨x920, hx921, H⟩ := gv_e H
      refine GV.iadd hx921 dL_law_1600 ?_
      obtain ⟨hg922, H⟩ := gg_e H
      obtain ⟨x923, hx924, H⟩ := gv_e H
      refine GV.sld hg922 hx924 dL_law_1601 ?_
      refine GA.aload_n dL_law_1602 rfl ?_
      obtain ⟨hg925, H⟩ := gg_e H
      obtain ⟨x926, S_927, hc928, H⟩ := gc_e H
      refine GA.callW (m_L_join hO hc928) xs_L_202 dL_law_1603 rfl (by omega) (by decide) rfl (Nat.le_of_ble_eq_true rfl) (by omega) (by omega) (fun E S9 hx => hx) (fun v S9 hq => ?_)
      obtain ⟨rfl, rfl⟩ := hq
      refine GA.istore dL_law_1606 (by decide) ?_
      refine GA.aload_n dL_law_1608 rfl ?_
      refine GA.aload_n dL_law_1609 rfl ?_
      refine GA.iload dL_law_1610 rfl ?_
      refine GA.iconst dL_law_1612 ?_
      obtain ⟨x929, hx930, H⟩ := gv_e H
      refine GV.iadd hx930 dL_law_1613 ?_
      obtain ⟨hg931, H⟩ := gg_e H
      obtain ⟨x932, hx933, H⟩ := gv_e H
      refine GV.sld hg931 hx933 dL_law_1614 ?_
      refine GA.aload_n dL_law_1615 rfl ?_
      refine GA.iload dL_law_1616 rfl ?_
      refine GA.iconst dL_law_1618 ?_
      obtain ⟨x934, hx935, H⟩ := gv_e H
      refine GV.iadd hx935 dL_law_1619 ?_
      obtain ⟨hg936, H⟩ := gg_e H
      obtain ⟨x937, hx938, H⟩ := gv_e H
      refine GV.sld hg936 hx938 dL_law_1620 ?_
      refine GA.aload_n dL_law_1621 rfl ?_
      refine GA.iload dL_law_1622 rfl ?_
      refine GA.iconst dL_law_1624 ?_
      obtain ⟨x939, hx940, H⟩ := gv_e H
      refine GV.iadd hx940 dL_law_1625 ?_
      obtain ⟨hg941, H⟩ := gg_e H
      obtain ⟨x942, hx943, H⟩ := gv_e H
      refine GV.sld hg941 hx943 dL_law_1626 ?_
      obtain ⟨x944, S_945, hc946, H⟩ := gc_e H
      refine GA.callV (m_X12_join hL hc946) xs_L_204 dL_law_1627 (gs_500 hL) (by decide) rfl rfl (by omega) (by decide) rfl (Nat.le_of_ble_eq_true rfl) (by omega) (by omega) rfl (fun E S9 hx => hx.elim) (fun v S9 hq => ?_)
      obtain ⟨rfl, rfl⟩ := hq
      refine GA.istore dL_law_1630 (by decide) ?_
      refine GA.aload_n dL_law_1632 rfl ?_
      obtain ⟨x947, S_948, hc949, H⟩ := gc_e H
      refine GA.callV (m_X12_thrown hL hc949) xs_L_131 dL_law_1633 (gs_500 hL) (by decide) rfl rfl (by omega) (by decide) rfl (Nat.le_of_ble_eq_true rfl) (by omega) (by omega) rfl (fun E S9 hx => hx.elim) (fun v S9 hq => ?_)
      obtain ⟨rfl, rfl⟩ := hq
      refine GA.iload dL_law_1636 rfl ?_
      obtain ⟨hg950, H⟩ := gg_e H
      obtain ⟨hg951, H⟩ := gg_e H
      refine GV.icmp_eq (tgt := 1643) hg950 hg951 dL_law_1638 (by decide) (fun c952 => ?_) (fun c952 => ?_)
      · have H := it_t H c952
        refine GA.iload dL_law_1643 rfl ?_
        refine GV.if_ne (tgt := 1660) hg951 dL_law_1645 (by decide) (fun c953 => ?_) (fun c953 => ?_)
        · have H := it_t H c953
          refine GA.goto (tgt := 2279) dL_law_1660 (by decide) ?_
          refine GA.locals [(0, .ref Z.1.1), (1, .ref (L 468)), (2, .ref (L 500)), (3, .ref (L 600)), (4, .int (J a4))] ⟨rfl, rfl, rfl, rfl, rfl, trivial⟩ ?_
          exact ih_2279 hL hO _ _ (a4) _ _ H _ _ (by omega)
        · have H := it_f H c953
          refine GA.aload_n dL_law_1648 rfl ?_
          refine GA.iconst dL_law_1649 ?_
          obtain ⟨x954, hx955, H⟩ := gv_e H
          refine GV.laldO hO hx955 dL_law_1650 ?_
          refine GA.iload dL_law_1651 rfl ?_
          obtain ⟨hg956, H⟩ := gg_e H
          refine GV.i2l hg956 dL_law_1653 ?_
          obtain ⟨hg957, H⟩ := gg_e H
          obtain ⟨hg958, H⟩ := gg_e H
          obtain ⟨x959, hx960, H⟩ := gv_e H
          refine GV.lcmp hg957 hg958 hx960 dL_law_1654 ?_
          obtain ⟨hg961, H⟩ := gg_e H
          refine GV.if_eq (tgt := 1660) hg961 dL_law_1655 (by decide) (fun c962 => ?_) (fun c962 => ?_)
          · have H := it_t H c962
            refine GA.goto (tgt := 2279) dL_law_1660 (by decide) ?_
            refine GA.locals [(0, .ref Z.1.1), (1, .ref (L 468)), (2, .ref (L 500)), (3, .ref (L 600)), (4, .int (J a4))] ⟨rfl, rfl, rfl, rfl, rfl, trivial⟩ ?_
            exact ih_2279 hL hO _ _ (a4) _ _ H _ _ (by omega)
          · have H := it_f H c962
            refine GA.iconst dL_law_1658 ?_
            cases H
            exact GV.zret (by decide) rfl dL_law_1659 (by omega) (by omega) ⟨rfl, rfl⟩
      · have H := it_f H c952
        refine GA.iconst dL_law_1641 ?_
        cases H
        exact GV.zret (by decide) rfl dL_law_1642 (by omega) (by omega) ⟨rfl, rfl⟩
    have H := it_f H c909
    by_cases c963 : x9 = 23
    · have H := it_t H c963
      refine GA.tableIn (tgt := 1663) dL_law_39 hg11 (by omega) (by omega) (by rw [c963] <;> rfl) (by decide) ?_
      refine GA.aload_n dL_law_1663 rfl ?_
      obtain ⟨hg964, H⟩ := gg_e H
      obtain ⟨x965, S_966, hc967, H⟩ := gc_e H
      refine GA.callV (m_X11_quarrels hc967) xs_L_205 dL_law_1664 gs_468 (by decide) rfl rfl (by omega) (by decide) rfl (Nat.le_of_ble_eq_true rfl) (by omega) (by omega) rfl (fun E S9 hx => hx.elim) (fun v S9 hq => ?_)
      obtain ⟨rfl, rfl⟩ := hq
      refine GA.aload_n dL_law_1667 rfl ?_
      obtain ⟨x968, S_969, hc970, H⟩ := gc_e H
      refine GA.callV (m_X12_quarrels hL hc970) xs_L_208 dL_law_1668 (gs_500 hL) (by decide) rfl rfl (by omega) (by decide) rfl (Nat.le_of_ble_eq_true rfl) (by omega) (by omega) rfl (fun E S9 hx => hx.elim) (fun v S9 hq => ?_)
      obtain ⟨rfl, rfl⟩ := hq
      obtain ⟨hg971, H⟩ := gg_e H
      obtain ⟨hg972, H⟩ := gg_e H
      refine GV.icmp_eq (tgt := 2279) hg971 hg972 dL_law_1671 (by decide) (fun c973 => ?_) (fun c973 => ?_)
      · have H := it_t H c973
        refine GA.locals [(0, .ref Z.1.1), (1, .ref (L 468)), (2, .ref (L 500)), (3, .ref (L 600)), (4, .int (J a4))] ⟨rfl, rfl, rfl, rfl, rfl, trivial⟩ ?_
        exact ih_2279 hL hO _ _ (a4) _ _ H _ _ (by omega)
      · have H := it_f H c973
        refine GA.iconst dL_law_1674 ?_
        cases H
        exact GV.zret (by decide) rfl dL_law_1675 (by omega) (by omega) ⟨rfl, rfl⟩
    have H := it_f H c963
    by_cases c974 : x9 = 24
    · have H := it_t H c974
      refine GA.tableIn (tgt := 1676) dL_law_39 hg11 (by omega) (by omega) (by rw [c974] <;> rfl) (by decide) ?_
      refine GA.aload_n dL_law_1676 rfl ?_
      refine GA.aload_n dL_law_1677 rfl ?_
      refine GA.iload dL_law_1678 rfl ?_
      refine GA.iconst dL_law_1680 ?_
      obtain ⟨x975, hx976, H⟩ := gv_e H
      refine GV.iadd hx976 dL_law_1681 ?_
      obtain ⟨hg977, H⟩ := gg_e H
      obtain ⟨x978, hx979, H⟩ := gv_e H
      refine GV.sld hg977 hx979 dL_law_1682 ?_
      refine GA.aload_n dL_law_1683 rfl ?_
      obtain ⟨hg980, H⟩ := gg_e H
      obtain ⟨x981, S_982, hc983, H⟩ := gc_e H
      refine GA.callW (m_L_quarrel hO hc983) xs_L_209 dL_law_1684 rfl (by omega) (by decide) rfl (Nat.le_of_ble_eq_true rfl) (by omega) (by omega) (fun E S9 hx => hx) (fun v S9 hq => ?_)
      obtain ⟨rfl, rfl⟩ := hq
      refine GA.istore dL_law_1687 (by decide) ?_
      refine GA.aload_n dL_law_1689 rfl ?_
      refine GA.aload_n dL_law_1690 rfl ?_
      refine GA.iload dL_law_1691 rfl ?_
      refine GA.iconst dL_law_1693 ?_
      obtain ⟨x984, hx985, H⟩ := gv_e H
      refine GV.iadd hx985 dL_law_1694 ?_
      obtain ⟨hg986, H⟩ := gg_e H
      obtain ⟨x987, hx988, H⟩ := gv_e H
      refine GV.sld hg986 hx988 dL_law_1695 ?_
      obtain ⟨x989, S_990, hc991, H⟩ := gc_e H
      refine GA.callV (m_X12_quarrel hL hc991) xs_L_211 dL_law_1696 (gs_500 hL) (by decide) rfl rfl (by omega) (by decide) rfl (Nat.le_of_ble_eq_true rfl) (by omega) (by omega) rfl (fun E S9 hx => hx.elim) (fun v S9 hq => ?_)
      obtain ⟨rfl, rfl⟩ := hq
      refine GA.istore dL_law_1699 (by decide) ?_
      refine GA.aload_n dL_law_1701 rfl ?_
      obtain ⟨x992, S_993, hc994, H⟩ := gc_e H
      refine GA.callV (m_X12_thrown hL hc994) xs_L_131 dL_law_1702 (gs_500 hL) (by decide) rfl rfl (by omega) (by decide) rfl (Nat.le_of_ble_eq_true rfl) (by omega) (by omega) rfl (fun E S9 hx => hx.elim) (fun v S9 hq => ?_)
      obtain ⟨rfl, rfl⟩ := hq
      refine GA.iload dL_law_1705 rfl ?_
      obtain ⟨hg995, H⟩ := gg_e H
      obtain ⟨hg996, H⟩ := gg_e H
      refine GV.icmp_eq (tgt := 1712) hg995 hg996 dL_law_1707 (by decide) (fun c997 => ?_) (fun c997 => ?_)
      · have H := it_t H c997
        refine GA.iload dL_law_1712 rfl ?_
        refine GV.if_ne (tgt := 1729) hg996 dL_law_1714 (by decide) (fun c998 => ?_) (fun c998 => ?_)
        · have H := it_t H c998
          refine GA.goto (tgt := 2279) dL_law_1729 (by decide) ?_
          refine GA.locals [(0, .ref Z.1.1), (1, .ref (L 468)), (2, .ref (L 500)), (3, .ref (L 600)), (4, .int (J a4))] ⟨rfl, rfl, rfl, rfl, rfl, trivial⟩ ?_
          exact ih_2279 hL hO _ _ (a4) _ _ H _ _ (by omega)
        · have H := it_f H c998
          refine GA.aload_n dL_law_1717 rfl ?_
          refine GA.iconst dL_law_1718 ?_
          obtain ⟨x999, hx1000, H⟩ := gv_e H
          refine GV.laldO hO hx1000 dL_law_1719 ?_
          refine GA.iload dL_law_1720 rfl ?_
          obtain ⟨hg1001, H⟩ := gg_e H
          refine GV.i2l hg1001 dL_law_1722 ?_
          obtain ⟨hg1002, H⟩ := gg_e H
          obtain ⟨hg1003, H⟩ := gg_e H
          obtain ⟨x1004, hx1005, H⟩ := gv_e H
          refine GV.lcmp hg1002 hg1003 hx1005 dL_law_1723 ?_
          obtain ⟨hg1006, H⟩ := gg_e H
          refine GV.if_eq (tgt := 1729) hg1006 dL_law_1724 (by decide) (fun c1007 => ?_) (fun c1007 => ?_)
          · have H := it_t H c1007
            refine GA.goto (tgt := 2279) dL_law_1729 (by decide) ?_
            refine GA.locals [(0, .ref Z.1.1), (1, .ref (L 468)), (2, .ref (L 500)), (3, .ref (L 600)), (4, .int (J a4))] ⟨rfl, rfl, rfl, rfl, rfl, trivial⟩ ?_
            exact ih_2279 hL hO _ _ (a4) _ _ H _ _ (by omega)
          · have H := it_f H c1007
            refine GA.iconst dL_law_1727 ?_
            cases H
            exact GV.zret (by decide) rfl dL_law_1728 (by omega) (by omega) ⟨rfl, rfl⟩
      · have H := it_f H c997
        refine GA.iconst dL_law_1710 ?_
        cases H
        exact GV.zret (by decide) rfl dL_law_1711 (by omega) (by omega) ⟨rfl, rfl⟩
    have H := it_f H c974
    by_cases c1008 : x9 = 25
    · have H := it_t H c1008
      refine GA.tableIn (tgt := 1732) dL_law_39 hg11 (by omega) (by omega) (by rw [c1008] <;> rfl) (by decide) ?_
      refine GA.aload_n dL_law_1732 rfl ?_
      refine GA.aload_n dL_law_1733 rfl ?_
      obtain ⟨hg1009, H⟩ := gg_e H
      obtain ⟨x1010, S_1011, hc1012, H⟩ := gc_e H
      refine GA.callW (m_L_standard hO hc1012) xs_L_212 dL_law_1734 rfl (by omega) (by decide) rfl (Nat.le_of_ble_eq_true rfl) (by omega) (by omega) (fun E S9 hx => hx) (fun v S9 hq => ?_)
      obtain ⟨rfl, rfl⟩ := hq
      refine GA.istore dL_law_1737 (by decide) ?_
      refine GA.aload_n dL_law_1739 rfl ?_
      obtain ⟨x1013, S_1014, hc1015, H⟩ := gc_e H
      refine GA.callV (m_X12_standard hL hc1015) xs_L_214 dL_law_1740 (gs_500 hL) (by decide) rfl rfl (by omega) (by decide) rfl (Nat.le_of_ble_eq_true rfl) (by omega) (by omega) rfl (fun E S9 hx => hx.elim) (fun v S9 hq => ?_)
      obtain ⟨rfl, rfl⟩ := hq
      refine GA.istore dL_law_1743 (by decide) ?_
      refine GA.aload_n dL_law_1745 rfl ?_
      obtain ⟨x1016, S_1017, hc1018, H⟩ := gc_e H
      refine GA.callV (m_X12_thrown hL hc1018) xs_L_131 dL_law_1746 (gs_500 hL) (by decide) rfl rfl (by omega) (by decide) rfl (Nat.le_of_ble_eq_true rfl) (by omega) (by omega) rfl (fun E S9 hx => hx.elim) (fun v S9 hq => ?_)
      obtain ⟨rfl, rfl⟩ := hq
      refine GA.iload dL_law_1749 rfl ?_
      obtain ⟨hg1019, H⟩ := gg_e H
      obtain ⟨hg1020, H⟩ := gg_e H
      refine GV.icmp_eq (tgt := 1756) hg1019 hg1020 dL_law_1751 (by decide) (fun c1021 => ?_) (fun c1021 => ?_)
      · have H := it_t H c1021
        refine GA.iload dL_law_1756 rfl ?_
        refine GV.if_ne (tgt := 1773) hg1020 dL_law_1758 (by decide) (fun c1022 => ?_) (fun c1022 => ?_)
        · have H := it_t H c1022
          refine GA.goto (tgt := 2279) dL_law_1773 (by decide) ?_
          refine GA.locals [(0, .ref Z.1.1), (1, .ref (L 468)), (2, .ref (L 500)), (3, .ref (L 600)), (4, .int (J a4))] ⟨rfl, rfl, rfl, rfl, rfl, trivial⟩ ?_
          exact ih_2279 hL hO _ _ (a4) _ _ H _ _ (by omega)
        · have H := it_f H c1022
          refine GA.aload_n dL_law_1761 rfl ?_
          refine GA.iconst dL_law_1762 ?_
          obtain ⟨x1023, hx1024, H⟩ := gv_e H
          refine GV.laldO hO hx1024 dL_law_1763 ?_
          refine GA.iload dL_law_1764 rfl ?_
          obtain ⟨hg1025, H⟩ := gg_e H
          refine GV.i2l hg1025 dL_law_1766 ?_
          obtain ⟨hg1026, H⟩ := gg_e H
          obtain ⟨hg1027, H⟩ := gg_e H
          obtain ⟨x1028, hx1029, H⟩ := gv_e H
          refine GV.lcmp hg1026 hg1027 hx1029 dL_law_1767 ?_
          obtain ⟨hg1030, H⟩ := gg_e H
          refine GV.if_eq (tgt := 1773) hg1030 dL_law_1768 (by decide) (fun c1031 => ?_) (fun c1031 => ?_)
          · have H := it_t H c1031
            refine GA.goto (tgt := 2279) dL_law_1773 (by decide) ?_
            refine GA.locals [(0, .ref Z.1.1), (1, .ref (L 468)), (2, .ref (L 500)), (3, .ref (L 600)), (4, .int (J a4))] ⟨rfl, rfl, rfl, rfl, rfl, trivial⟩ ?_
            exact ih_2279 hL hO _ _ (a4) _ _ H _ _ (by omega)
          · have H := it_f H c1031
            refine GA.iconst dL_law_1771 ?_
            cases H
            exact GV.zret (by decide) rfl dL_law_1772 (by omega) (by omega) ⟨rfl, rfl⟩
      · have H := it_f H c1021
        refine GA.iconst dL_law_1754 ?_
        cases H
        exact GV.zret (by decide) rfl dL_law_1755 (by omega) (by omega) ⟨rfl, rfl⟩
    have H := it_f H c1008
    by_cases c1032 : x9 = 26
    · have H := it_t H c1032
      refine GA.tableIn (tgt := 1776) dL_law_39 hg11 (by omega) (by omega) (by rw [c1032] <;> rfl) (by decide) ?_
      refine GA.aload_n dL_law_1776 rfl ?_
      refine GA.aload_n dL_law_1777 rfl ?_
      refine GA.iload dL_law_1778 rfl ?_
      refine GA.iconst dL_law_1780 ?_
      obtain ⟨x1033, hx1034, H⟩ := gv_e H
      refine GV.iadd hx1034 dL_law_1781 ?_
      obtain ⟨hg1035, H⟩ := gg_e H
      obtain ⟨x1036, hx1037, H⟩ := gv_e H
      refine GV.sld hg1035 hx1037 dL_law_1782 ?_
      refine GA.aload_n dL_law_1783 rfl ?_
      refine GA.iload dL_law_1784 rfl ?_
      refine GA.iconst dL_law_1786 ?_
      obtain ⟨x1038, hx1039, H⟩ := gv_e H
      refine GV.iadd hx1039 dL_law_1787 ?_
      obtain ⟨hg1040, H⟩ := gg_e H
      obtain ⟨x1041, hx1042, H⟩ := gv_e H
      refine GV.sld hg1040 hx1042 dL_law_1788 ?_
      refine GA.aload_n dL_law_1789 rfl ?_
      obtain ⟨hg1043, H⟩ := gg_e H
      obtain ⟨x1044, S_1045, hc1046, H⟩ := gc_e H
      refine GA.callW (m_L_check hO hc1046) xs_L_215 dL_law_1790 rfl (by omega) (by decide) rfl (Nat.le_of_ble_eq_true rfl) (by omega) (by omega) (fun E S9 hx => hx) (fun v S9 hq => ?_)
      obtain ⟨rfl, rfl⟩ := hq
      refine GA.istore dL_law_1793 (by decide) ?_
      refine GA.aload_n dL_law_1795 rfl ?_
      refine GA.aload_n dL_law_1796 rfl ?_
      refine GA.iload dL_law_1797 rfl ?_
      refine GA.iconst dL_law_1799 ?_
      obtain ⟨x1047, hx1048, H⟩ := gv_e H
      refine GV.iadd hx1048 dL_law_1800 ?_
      obtain ⟨hg1049, H⟩ := gg_e H
      obtain ⟨x1050, hx1051, H⟩ := gv_e H
      refine GV.sld hg1049 hx1051 dL_law_1801 ?_
      refine GA.aload_n dL_law_1802 rfl ?_
      refine GA.iload dL_law_1803 rfl ?_
      refine GA.iconst dL_law_1805 ?_
      obtain ⟨x1052, hx1053, H⟩ := gv_e H
      refine GV.iadd hx1053 dL_law_1806 ?_
      obtain ⟨hg1054, H⟩ := gg_e H
      obtain ⟨x1055, hx1056, H⟩ := gv_e H
      refine GV.sld hg1054 hx1056 dL_law_1807 ?_
      obtain ⟨x1057, S_1058, hc1059, H⟩ := gc_e H
      refine GA.callV (m_X12_check hL hc1059) xs_L_217 dL_law_1808 (gs_500 hL) (by decide) rfl rfl (by omega) (by decide) rfl (Nat.le_of_ble_eq_true rfl) (by omega) (by omega) rfl (fun E S9 hx => hx.elim) (fun v S9 hq => ?_)
      obtain ⟨rfl, rfl⟩ := hq
      refine GA.istore dL_law_1811 (by decide) ?_
      refine GA.aload_n dL_law_1813 rfl ?_
      obtain ⟨x1060, S_1061, hc1062, H⟩ := gc_e H
      refine GA.callV (m_X12_thrown hL hc1062) xs_L_131 dL_law_1814 (gs_500 hL) (by decide) rfl rfl (by omega) (by decide) rfl (Nat.le_of_ble_eq_true rfl) (by omega) (by omega) rfl (fun E S9 hx => hx.elim) (fun v S9 hq => ?_)
      obtain ⟨rfl, rfl⟩ := hq
      refine GA.iload dL_law_1817 rfl ?_
      obtain ⟨hg1063, H⟩ := gg_e H
      obtain ⟨hg1064, H⟩ := gg_e H
      refine GV.icmp_eq (tgt := 1824) hg1063 hg1064 dL_law_1819 (by decide) (fun c1065 => ?_) (fun c1065 => ?_)
      · have H := it_t H c1065
        refine GA.iload dL_law_1824 rfl ?_
        refine GV.if_ne (tgt := 1841) hg1064 dL_law_1826 (by decide) (fun c1066 => ?_) (fun c1066 => ?_)
        · have H := it_t H c1066
          refine GA.goto (tgt := 2279) dL_law_1841 (by decide) ?_
          refine GA.locals [(0, .ref Z.1.1), (1, .ref (L 468)), (2, .ref (L 500)), (3, .ref (L 600)), (4, .int (J a4))] ⟨rfl, rfl, rfl, rfl, rfl, trivial⟩ ?_
          exact ih_2279 hL hO _ _ (a4) _ _ H _ _ (by omega)
        · have H := it_f H c1066
          refine GA.aload_n dL_law_1829 rfl ?_
          refine GA.iconst dL_law_1830 ?_
          obtain ⟨x1067, hx1068, H⟩ := gv_e H
          refine GV.laldO hO hx1068 dL_law_1831 ?_
          refine GA.iload dL_law_1832 rfl ?_
          obtain ⟨hg1069, H⟩ := gg_e H
          refine GV.i2l hg1069 dL_law_1834 ?_
          obtain ⟨hg1070, H⟩ := gg_e H
          obtain ⟨hg1071, H⟩ := gg_e H
          obtain ⟨x1072, hx1073, H⟩ := gv_e H
          refine GV.lcmp hg1070 hg1071 hx1073 dL_law_1835 ?_
          obtain ⟨hg1074, H⟩ := gg_e H
          refine GV.if_eq (tgt := 1841) hg1074 dL_law_1836 (by decide) (fun c1075 => ?_) (fun c1075 => ?_)
          · have H := it_t H c1075
            refine GA.goto (tgt := 2279) dL_law_1841 (by decide) ?_
            refine GA.locals [(0, .ref Z.1.1), (1, .ref (L 468)), (2, .ref (L 500)), (3, .ref (L 600)), (4, .int (J a4))] ⟨rfl, rfl, rfl, rfl, rfl, trivial⟩ ?_
            exact ih_2279 hL hO _ _ (a4) _ _ H _ _ (by omega)
          · have H := it_f H c1075
            refine GA.iconst dL_law_1839 ?_
            cases H
            exact GV.zret (by decide) rfl dL_law_1840 (by omega) (by omega) ⟨rfl, rfl⟩
      · have H := it_f H c1065
        refine GA.iconst dL_law_1822 ?_
        cases H
        exact GV.zret (by decide) rfl dL_law_1823 (by omega) (by omega) ⟨rfl, rfl⟩
    have H := it_f H c1032
    by_cases c1076 : x9 = 27
    · have H := it_t H c1076
      refine GA.tableIn (tgt := 1844) dL_law_39 hg11 (by omega) (by omega) (by rw [c1076] <;> rfl) (by decide) ?_
      refine GA.aload_n dL_law_1844 rfl ?_
      refine GA.aload_n dL_law_1845 rfl ?_
      refine GA.iload dL_law_1846 rfl ?_
      refine GA.iconst dL_law_1848 ?_
      obtain ⟨x1077, hx1078, H⟩ := gv_e H
      refine GV.iadd hx1078 dL_law_1849 ?_
      obtain ⟨hg1079, H⟩ := gg_e H
      obtain ⟨x1080, hx1081, H⟩ := gv_e H
      refine GV.sld hg1079 hx1081 dL_law_1850 ?_
      refine GA.aload_n dL_law_1851 rfl ?_
      refine GA.iload dL_law_1852 rfl ?_
      refine GA.iconst dL_law_1854 ?_
      obtain ⟨x1082, hx1083, H⟩ := gv_e H
      refine GV.iadd hx1083 dL_law_1855 ?_
      obtain ⟨hg1084, H⟩ := gg_e H
      obtain ⟨x1085, hx1086, H⟩ := gv_e H
      refine GV.sld hg1084 hx1086 dL_law_1856 ?_
      refine GA.aload_n dL_law_1857 rfl ?_
      obtain ⟨hg1087, H⟩ := gg_e H
      obtain ⟨x1088, S_1089, hc1090, H⟩ := gc_e H
      refine GA.callW (m_L_complaint hO hc1090) xs_L_218 dL_law_1858 rfl (by omega) (by decide) rfl (Nat.le_of_ble_eq_true rfl) (by omega) (by omega) (fun E S9 hx => hx) (fun v S9 hq => ?_)
      obtain ⟨rfl, rfl⟩ := hq
      refine GA.istore dL_law_1861 (by decide) ?_
      refine GA.aload_n dL_law_1863 rfl ?_
      refine GA.aload_n dL_law_1864 rfl ?_
      refine GA.iload dL_law_1865 rfl ?_
      refine GA.iconst dL_law_1867 ?_
      obtain ⟨x1091, hx1092, H⟩ := gv_e H
      refine GV.iadd hx1092 dL_law_1868 ?_
      obtain ⟨hg1093, H⟩ := gg_e H
      obtain ⟨x1094, hx1095, H⟩ := gv_e H
      refine GV.sld hg1093 hx1095 dL_law_1869 ?_
      refine GA.aload_n dL_law_1870 rfl ?_
      refine GA.iload dL_law_1871 rfl ?_
      refine GA.iconst dL_law_1873 ?_
      obtain ⟨x1096, hx1097, H⟩ := gv_e H
      refine GV.iadd hx1097 dL_law_1874 ?_
      obtain ⟨hg1098, H⟩ := gg_e H
      obtain ⟨x1099, hx1100, H⟩ := gv_e H
      refine GV.sld hg1098 hx1100 dL_law_1875 ?_
      obtain ⟨x1101, S_1102, hc1103, H⟩ := gc_e H
      refine GA.callV (m_X12_complaint hL hc1103) xs_L_220 dL_law_1876 (gs_500 hL) (by decide) rfl rfl (by omega) (by decide) rfl (Nat.le_of_ble_eq_true rfl) (by omega) (by omega) rfl (fun E S9 hx => hx.elim) (fun v S9 hq => ?_)
      obtain ⟨rfl, rfl⟩ := hq
      refine GA.istore dL_law_1879 (by decide) ?_
      refine GA.aload_n dL_law_1881 rfl ?_
      obtain ⟨x1104, S_1105, hc1106, H⟩ := gc_e H
      refine GA.callV (m_X12_thrown hL hc1106) xs_L_131 dL_law_1882 (gs_500 hL) (by decide) rfl rfl (by omega) (by decide) rfl (Nat.le_of_ble_eq_true rfl) (by omega) (by omega) rfl (fun E S9 hx => hx.elim) (fun v S9 hq => ?_)
      obtain ⟨rfl, rfl⟩ := hq
      refine GA.iload dL_law_1885 rfl ?_
      obtain ⟨hg1107, H⟩ := gg_e H
      obtain ⟨hg1108, H⟩ := gg_e H
      refine GV.icmp_eq (tgt := 1892) hg1107 hg1108 dL_law_1887 (by decide) (fun c1109 => ?_) (fun c1109 => ?_)
      · have H := it_t H c1109
        refine GA.iload dL_law_1892 rfl ?_
        refine GV.if_ne (tgt := 1909) hg1108 dL_law_1894 (by decide) (fun c1110 => ?_) (fun c1110 => ?_)
        · have H := it_t H c1110
          refine GA.goto (tgt := 2279) dL_law_1909 (by decide) ?_
          refine GA.locals [(0, .ref Z.1.1), (1, .ref (L 468)), (2, .ref (L 500)), (3, .ref (L 600)), (4, .int (J a4))] ⟨rfl, rfl, rfl, rfl, rfl, trivial⟩ ?_
          exact ih_2279 hL hO _ _ (a4) _ _ H _ _ (by omega)
        · have H := it_f H c1110
          refine GA.aload_n dL_law_1897 rfl ?_
          refine GA.iconst dL_law_1898 ?_
          obtain ⟨x1111, hx1112, H⟩ := gv_e H
          refine GV.laldO hO hx1112 dL_law_1899 ?_
          refine GA.iload dL_law_1900 rfl ?_
          obtain ⟨hg1113, H⟩ := gg_e H
          refine GV.i2l hg1113 dL_law_1902 ?_
          obtain ⟨hg1114, H⟩ := gg_e H
          obtain ⟨hg1115, H⟩ := gg_e H
          obtain ⟨x1116, hx1117, H⟩ := gv_e H
          refine GV.lcmp hg1114 hg1115 hx1117 dL_law_1903 ?_
          obtain ⟨hg1118, H⟩ := gg_e H
          refine GV.if_eq (tgt := 1909) hg1118 dL_law_1904 (by decide) (fun c1119 => ?_) (fun c1119 => ?_)
          · have H := it_t H c1119
            refine GA.goto (tgt := 2279) dL_law_1909 (by decide) ?_
            refine GA.locals [(0, .ref Z.1.1), (1, .ref (L 468)), (2, .ref (L 500)), (3, .ref (L 600)), (4, .int (J a4))] ⟨rfl, rfl, rfl, rfl, rfl, trivial⟩ ?_
            exact ih_2279 hL hO _ _ (a4) _ _ H _ _ (by omega)
          · have H := it_f H c1119
            refine GA.iconst dL_law_1907 ?_
            cases H
            exact GV.zret (by decide) rfl dL_law_1908 (by omega) (by omega) ⟨rfl, rfl⟩
      · have H := it_f H c1109
        refine GA.iconst dL_law_1890 ?_
        cases H
        exact GV.zret (by decide) rfl dL_law_1891 (by omega) (by omega) ⟨rfl, rfl⟩
    have H := it_f H c1076
    by_cases c1120 : x9 = 28
    · have H := it_t H c1120
      refine GA.tableIn (tgt := 1912) dL_law_39 hg11 (by omega) (by omega) (by rw [c1120] <;> rfl) (by decide) ?_
      refine GA.aload_n dL_law_1912 rfl ?_
      refine GA.aload_n dL_law_1913 rfl ?_
      refine GA.iload dL_law_1914 rfl ?_
      refine GA.iconst dL_law_1916 ?_
      obtain ⟨x1121, hx1122, H⟩ := gv_e H
      refine GV.iadd hx1122 dL_law_1917 ?_
      obtain ⟨hg1123, H⟩ := gg_e H
      obtain ⟨x1124, hx1125, H⟩ := gv_e H
      refine GV.sld hg1123 hx1125 dL_law_1918 ?_
      refine GA.aload_n dL_law_1919 rfl ?_
      obtain ⟨hg1126, H⟩ := gg_e H
      obtain ⟨x1127, S_1128, hc1129, H⟩ := gc_e H
      refine GA.callW (m_L_columns hO hc1129) xs_L_221 dL_law_1920 rfl (by omega) (by decide) rfl (Nat.le_of_ble_eq_true rfl) (by omega) (by omega) (fun E S9 hx => hx) (fun v S9 hq => ?_)
      obtain ⟨rfl, rfl⟩ := hq
      refine GA.istore dL_law_1923 (by decide) ?_
      refine GA.aload_n dL_law_1925 rfl ?_
      refine GA.aload_n dL_law_1926 rfl ?_
      refine GA.iload dL_law_1927 rfl ?_
      refine GA.iconst dL_law_1929 ?_
      obtain ⟨x1130, hx1131, H⟩ := gv_e H
      refine GV.iadd hx1131 dL_law_1930 ?_
      obtain ⟨hg1132, H⟩ := gg_e H
      obtain ⟨x1133, hx1134, H⟩ := gv_e H
      refine GV.sld hg1132 hx1134 dL_law_1931 ?_
      obtain ⟨x1135, S_1136, hc1137, H⟩ := gc_e H
      refine GA.callV (m_X12_columns hL hc1137) xs_L_223 dL_law_1932 (gs_500 hL) (by decide) rfl rfl (by omega) (by decide) rfl (Nat.le_of_ble_eq_true rfl) (by omega) (by omega) rfl (fun E S9 hx => hx.elim) (fun v S9 hq => ?_)
      obtain ⟨rfl, rfl⟩ := hq
      refine GA.istore dL_law_1935 (by decide) ?_
      refine GA.aload_n dL_law_1937 rfl ?_
      obtain ⟨x1138, S_1139, hc1140, H⟩ := gc_e H
      refine GA.callV (m_X12_thrown hL hc1140) xs_L_131 dL_law_1938 (gs_500 hL) (by decide) rfl rfl (by omega) (by decide) rfl (Nat.le_of_ble_eq_true rfl) (by omega) (by omega) rfl (fun E S9 hx => hx.elim) (fun v S9 hq => ?_)
      obtain ⟨rfl, rfl⟩ := hq
      refine GA.iload dL_law_1941 rfl ?_
      obtain ⟨hg1141, H⟩ := gg_e H
      obtain ⟨hg1142, H⟩ := gg_e H
      refine GV.icmp_eq (tgt := 1948) hg1141 hg1142 dL_law_1943 (by decide) (fun c1143 => ?_) (fun c1143 => ?_)
      · have H := it_t H c1143
        refine GA.iload dL_law_1948 rfl ?_
        refine GV.if_ne (tgt := 1965) hg1142 dL_law_1950 (by decide) (fun c1144 => ?_) (fun c1144 => ?_)
        · have H := it_t H c1144
          refine GA.goto (tgt := 2279) dL_law_1965 (by decide) ?_
          refine GA.locals [(0, .ref Z.1.1), (1, .ref (L 468)), (2, .ref (L 500)), (3, .ref (L 600)), (4, .int (J a4))] ⟨rfl, rfl, rfl, rfl, rfl, trivial⟩ ?_
          exact ih_2279 hL hO _ _ (a4) _ _ H _ _ (by omega)
        · have H := it_f H c1144
          refine GA.aload_n dL_law_1953 rfl ?_
          refine GA.iconst dL_law_1954 ?_
          obtain ⟨x1145, hx1146, H⟩ := gv_e H
          refine GV.laldO hO hx1146 dL_law_1955 ?_
          refine GA.iload dL_law_1956 rfl ?_
          obtain ⟨hg1147, H⟩ := gg_e H
          refine GV.i2l hg1147 dL_law_1958 ?_
          obtain ⟨hg1148, H⟩ := gg_e H
          obtain ⟨hg1149, H⟩ := gg_e H
          obtain ⟨x1150, hx1151, H⟩ := gv_e H
          refine GV.lcmp hg1148 hg1149 hx1151 dL_law_1959 ?_
          obtain ⟨hg1152, H⟩ := gg_e H
          refine GV.if_eq (tgt := 1965) hg1152 dL_law_1960 (by decide) (fun c1153 => ?_) (fun c1153 => ?_)
          · have H := it_t H c1153
            refine GA.goto (tgt := 2279) dL_law_1965 (by decide) ?_
            refine GA.locals [(0, .ref Z.1.1), (1, .ref (L 468)), (2, .ref (L 500)), (3, .ref (L 600)), (4, .int (J a4))] ⟨rfl, rfl, rfl, rfl, rfl, trivial⟩ ?_
            exact ih_2279 hL hO _ _ (a4) _ _ H _ _ (by omega)
          · have H := it_f H c1153
            refine GA.iconst dL_law_1963 ?_
            cases H
            exact GV.zret (by decide) rfl dL_law_1964 (by omega) (by omega) ⟨rfl, rfl⟩
      · have H := it_f H c1143
        refine GA.iconst dL_law_1946 ?_
        cases H
        exact GV.zret (by decide) rfl dL_law_1947 (by omega) (by omega) ⟨rfl, rfl⟩
    have H := it_f H c1120
    by_cases c1154 : x9 = 29
    · have H := it_t H c1154
      refine GA.tableIn (tgt := 1968) dL_law_39 hg11 (by omega) (by omega) (by rw [c1154] <;> rfl) (by decide) ?_
      refine GA.aload_n dL_law_1968 rfl ?_
      refine GA.aload_n dL_law_1969 rfl ?_
      refine GA.iload dL_law_1970 rfl ?_
      refine GA.iconst dL_law_1972 ?_
      obtain ⟨x1155, hx1156, H⟩ := gv_e H
      refine GV.iadd hx1156 dL_law_1973 ?_
      obtain ⟨hg1157, H⟩ := gg_e H
      obtain ⟨x1158, hx1159, H⟩ := gv_e H
      refine GV.sld hg1157 hx1159 dL_law_1974 ?_
      refine GA.aload_n dL_law_1975 rfl ?_
      obtain ⟨hg1160, H⟩ := gg_e H
      obtain ⟨x1161, S_1162, hc1163, H⟩ := gc_e H
      refine GA.callW (m_L_rows hO hc1163) xs_L_224 dL_law_1976 rfl (by omega) (by decide) rfl (Nat.le_of_ble_eq_true rfl) (by omega) (by omega) (fun E S9 hx => hx) (fun v S9 hq => ?_)
      obtain ⟨rfl, rfl⟩ := hq
      refine GA.istore dL_law_1979 (by decide) ?_
      refine GA.aload_n dL_law_1981 rfl ?_
      refine GA.aload_n dL_law_1982 rfl ?_
      refine GA.iload dL_law_1983 rfl ?_
      refine GA.iconst dL_law_1985 ?_
      obtain ⟨x1164, hx1165, H⟩ := gv_e H
      refine GV.iadd hx1165 dL_law_1986 ?_
      obtain ⟨hg1166, H⟩ := gg_e H
      obtain ⟨x1167, hx1168, H⟩ := gv_e H
      refine GV.sld hg1166 hx1168 dL_law_1987 ?_
      obtain ⟨x1169, S_1170, hc1171, H⟩ := gc_e H
      refine GA.callV (m_X12_rows hL hc1171) xs_L_226 dL_law_1988 (gs_500 hL) (by decide) rfl rfl (by omega) (by decide) rfl (Nat.le_of_ble_eq_true rfl) (by omega) (by omega) rfl (fun E S9 hx => hx.elim) (fun v S9 hq => ?_)
      obtain ⟨rfl, rfl⟩ := hq
      refine GA.istore dL_law_1991 (by decide) ?_
      refine GA.aload_n dL_law_1993 rfl ?_
      obtain ⟨x1172, S_1173, hc1174, H⟩ := gc_e H
      refine GA.callV (m_X12_thrown hL hc1174) xs_L_131 dL_law_1994 (gs_500 hL) (by decide) rfl rfl (by omega) (by decide) rfl (Nat.le_of_ble_eq_true rfl) (by omega) (by omega) rfl (fun E S9 hx => hx.elim) (fun v S9 hq => ?_)
      obtain ⟨rfl, rfl⟩ := hq
      refine GA.iload dL_law_1997 rfl ?_
      obtain ⟨hg1175, H⟩ := gg_e H
      obtain ⟨hg1176, H⟩ := gg_e H
      refine GV.icmp_eq (tgt := 2004) hg1175 hg1176 dL_law_1999 (by decide) (fun c1177 => ?_) (fun c1177 => ?_)
      · have H := it_t H c1177
        refine GA.iload dL_law_2004 rfl ?_
        refine GV.if_ne (tgt := 2021) hg1176 dL_law_2006 (by decide) (fun c1178 => ?_) (fun c1178 => ?_)
        · have H := it_t H c1178
          refine GA.goto (tgt := 2279) dL_law_2021 (by decide) ?_
          refine GA.locals [(0, .ref Z.1.1), (1, .ref (L 468)), (2, .ref (L 500)), (3, .ref (L 600)), (4, .int (J a4))] ⟨rfl, rfl, rfl, rfl, rfl, trivial⟩ ?_
          exact ih_2279 hL hO _ _ (a4) _ _ H _ _ (by omega)
        · have H := it_f H c1178
          refine GA.aload_n dL_law_2009 rfl ?_
          refine GA.iconst dL_law_2010 ?_
          obtain ⟨x1179, hx1180, H⟩ := gv_e H
          refine GV.laldO hO hx1180 dL_law_2011 ?_
          refine GA.iload dL_law_2012 rfl ?_
          obtain ⟨hg1181, H⟩ := gg_e H
          refine GV.i2l hg1181 dL_law_2014 ?_
          obtain ⟨hg1182, H⟩ := gg_e H
          obtain ⟨hg1183, H⟩ := gg_e H
          obtain ⟨x1184, hx1185, H⟩ := gv_e H
          refine GV.lcmp hg1182 hg1183 hx1185 dL_law_2015 ?_
          obtain ⟨hg1186, H⟩ := gg_e H
          refine GV.if_eq (tgt := 2021) hg1186 dL_law_2016 (by decide) (fun c1187 => ?_) (fun c1187 => ?_)
          · have H := it_t H c1187
            refine GA.goto (tgt := 2279) dL_law_2021 (by decide) ?_
            refine GA.locals [(0, .ref Z.1.1), (1, .ref (L 468)), (2, .ref (L 500)), (3, .ref (L 600)), (4, .int (J a4))] ⟨rfl, rfl, rfl, rfl, rfl, trivial⟩ ?_
            exact ih_2279 hL hO _ _ (a4) _ _ H _ _ (by omega)
          · have H := it_f H c1187
            refine GA.iconst dL_law_2019 ?_
            cases H
            exact GV.zret (by decide) rfl dL_law_2020 (by omega) (by omega) ⟨rfl, rfl⟩
      · have H := it_f H c1177
        refine GA.iconst dL_law_2002 ?_
        cases H
        exact GV.zret (by decide) rfl dL_law_2003 (by omega) (by omega) ⟨rfl, rfl⟩
    have H := it_f H c1154
    by_cases c1188 : x9 = 30
    · have H := it_t H c1188
      refine GA.tableIn (tgt := 2024) dL_law_39 hg11 (by omega) (by omega) (by rw [c1188] <;> rfl) (by decide) ?_
      refine GA.aload_n dL_law_2024 rfl ?_
      refine GA.aload_n dL_law_2025 rfl ?_
      refine GA.iload dL_law_2026 rfl ?_
      refine GA.iconst dL_law_2028 ?_
      obtain ⟨x1189, hx1190, H⟩ := gv_e H
      refine GV.iadd hx1190 dL_law_2029 ?_
      obtain ⟨hg1191, H⟩ := gg_e H
      obtain ⟨x1192, hx1193, H⟩ := gv_e H
      refine GV.sld hg1191 hx1193 dL_law_2030 ?_
      refine GA.aload_n dL_law_2031 rfl ?_
      refine GA.iload dL_law_2032 rfl ?_
      refine GA.iconst dL_law_2034 ?_
      obtain ⟨x1194, hx1195, H⟩ := gv_e H
      refine GV.iadd hx1195 dL_law_2035 ?_
      obtain ⟨hg1196, H⟩ := gg_e H
      obtain ⟨x1197, hx1198, H⟩ := gv_e H
      refine GV.sld hg1196 hx1198 dL_law_2036 ?_
      refine GA.aload_n dL_law_2037 rfl ?_
      obtain ⟨hg1199, H⟩ := gg_e H
      obtain ⟨x1200, S_1201, hc1202, H⟩ := gc_e H
      refine GA.callW (m_L_grow hO hc1202) xs_L_227 dL_law_2038 rfl (by omega) (by decide) rfl (Nat.le_of_ble_eq_true rfl) (by omega) (by omega) (fun E S9 hx => hx) (fun v S9 hq => ?_)
      obtain ⟨rfl, rfl⟩ := hq
      refine GA.istore dL_law_2041 (by decide) ?_
      refine GA.aload_n dL_law_2043 rfl ?_
      refine GA.aload_n dL_law_2044 rfl ?_
      refine GA.iload dL_law_2045 rfl ?_
      refine GA.iconst dL_law_2047 ?_
      obtain ⟨x1203, hx1204, H⟩ := gv_e H
      refine GV.iadd hx1204 dL_law_2048 ?_
      obtain ⟨hg1205, H⟩ := gg_e H
      obtain ⟨x1206, hx1207, H⟩ := gv_e H
      refine GV.sld hg1205 hx1207 dL_law_2049 ?_
      refine GA.aload_n dL_law_2050 rfl ?_
      refine GA.iload dL_law_2051 rfl ?_
      refine GA.iconst dL_law_2053 ?_
      obtain ⟨x1208, hx1209, H⟩ := gv_e H
      refine GV.iadd hx1209 dL_law_2054 ?_
      obtain ⟨hg1210, H⟩ := gg_e H
      obtain ⟨x1211, hx1212, H⟩ := gv_e H
      refine GV.sld hg1210 hx1212 dL_law_2055 ?_
      obtain ⟨x1213, S_1214, hc1215, H⟩ := gc_e H
      refine GA.callV (m_X12_grow hL hc1215) xs_L_229 dL_law_2056 (gs_500 hL) (by decide) rfl rfl (by omega) (by decide) rfl (Nat.le_of_ble_eq_true rfl) (by omega) (by omega) rfl (fun E S9 hx => hx.elim) (fun v S9 hq => ?_)
      obtain ⟨rfl, rfl⟩ := hq
      refine GA.istore dL_law_2059 (by decide) ?_
      refine GA.aload_n dL_law_2061 rfl ?_
      obtain ⟨x1216, S_1217, hc1218, H⟩ := gc_e H
      refine GA.callV (m_X12_thrown hL hc1218) xs_L_131 dL_law_2062 (gs_500 hL) (by decide) rfl rfl (by omega) (by decide) rfl (Nat.le_of_ble_eq_true rfl) (by omega) (by omega) rfl (fun E S9 hx => hx.elim) (fun v S9 hq => ?_)
      obtain ⟨rfl, rfl⟩ := hq
      refine GA.iload dL_law_2065 rfl ?_
      obtain ⟨hg1219, H⟩ := gg_e H
      obtain ⟨hg1220, H⟩ := gg_e H
      refine GV.icmp_eq (tgt := 2072) hg1219 hg1220 dL_law_2067 (by decide) (fun c1221 => ?_) (fun c1221 => ?_)
      · have H := it_t H c1221
        refine GA.iload dL_law_2072 rfl ?_
        refine GV.if_ne (tgt := 2089) hg1220 dL_law_2074 (by decide) (fun c1222 => ?_) (fun c1222 => ?_)
        · have H := it_t H c1222
          refine GA.goto (tgt := 2279) dL_law_2089 (by decide) ?_
          refine GA.locals [(0, .ref Z.1.1), (1, .ref (L 468)), (2, .ref (L 500)), (3, .ref (L 600)), (4, .int (J a4))] ⟨rfl, rfl, rfl, rfl, rfl, trivial⟩ ?_
          exact ih_2279 hL hO _ _ (a4) _ _ H _ _ (by omega)
        · have H := it_f H c1222
          refine GA.aload_n dL_law_2077 rfl ?_
          refine GA.iconst dL_law_2078 ?_
          obtain ⟨x1223, hx1224, H⟩ := gv_e H
          refine GV.laldO hO hx1224 dL_law_2079 ?_
          refine GA.iload dL_law_2080 rfl ?_
          obtain ⟨hg1225, H⟩ := gg_e H
          refine GV.i2l hg1225 dL_law_2082 ?_
          obtain ⟨hg1226, H⟩ := gg_e H
          obtain ⟨hg1227, H⟩ := gg_e H
          obtain ⟨x1228, hx1229, H⟩ := gv_e H
          refine GV.lcmp hg1226 hg1227 hx1229 dL_law_2083 ?_
          obtain ⟨hg1230, H⟩ := gg_e H
          refine GV.if_eq (tgt := 2089) hg1230 dL_law_2084 (by decide) (fun c1231 => ?_) (fun c1231 => ?_)
          · have H := it_t H c1231
            refine GA.goto (tgt := 2279) dL_law_2089 (by decide) ?_
            refine GA.locals [(0, .ref Z.1.1), (1, .ref (L 468)), (2, .ref (L 500)), (3, .ref (L 600)), (4, .int (J a4))] ⟨rfl, rfl, rfl, rfl, rfl, trivial⟩ ?_
            exact ih_2279 hL hO _ _ (a4) _ _ H _ _ (by omega)
          · have H := it_f H c1231
            refine GA.iconst dL_law_2087 ?_
            cases H
            exact GV.zret (by decide) rfl dL_law_2088 (by omega) (by omega) ⟨rfl, rfl⟩
      · have H := it_f H c1221
        refine GA.iconst dL_law_2070 ?_
        cases H
        exact GV.zret (by decide) rfl dL_law_2071 (by omega) (by omega) ⟨rfl, rfl⟩
    have H := it_f H c1188
    by_cases c1232 : x9 = 31
    · have H := it_t H c1232
      refine GA.tableIn (tgt := 2092) dL_law_39 hg11 (by omega) (by omega) (by rw [c1232] <;> rfl) (by decide) ?_
      refine GA.aload_n dL_law_2092 rfl ?_
      refine GA.aload_n dL_law_2093 rfl ?_
      refine GA.iload dL_law_2094 rfl ?_
      refine GA.iconst dL_law_2096 ?_
      obtain ⟨x1233, hx1234, H⟩ := gv_e H
      refine GV.iadd hx1234 dL_law_2097 ?_
      obtain ⟨hg1235, H⟩ := gg_e H
      obtain ⟨x1236, hx1237, H⟩ := gv_e H
      refine GV.sld hg1235 hx1237 dL_law_2098 ?_
      refine GA.aload_n dL_law_2099 rfl ?_
      refine GA.iload dL_law_2100 rfl ?_
      refine GA.iconst dL_law_2102 ?_
      obtain ⟨x1238, hx1239, H⟩ := gv_e H
      refine GV.iadd hx1239 dL_law_2103 ?_
      obtain ⟨hg1240, H⟩ := gg_e H
      obtain ⟨x1241, hx1242, H⟩ := gv_e H
      refine GV.sld hg1240 hx1242 dL_law_2104 ?_
      refine GA.aload_n dL_law_2105 rfl ?_
      obtain ⟨hg1243, H⟩ := gg_e H
      obtain ⟨x1244, S_1245, hc1246, H⟩ := gc_e H
      refine GA.callW (m_L_vary hO hc1246) xs_L_230 dL_law_2106 rfl (by omega) (by decide) rfl (Nat.le_of_ble_eq_true rfl) (by omega) (by omega) (fun E S9 hx => hx) (fun v S9 hq => ?_)
      obtain ⟨rfl, rfl⟩ := hq
      refine GA.istore dL_law_2109 (by decide) ?_
      refine GA.aload_n dL_law_2111 rfl ?_
      refine GA.aload_n dL_law_2112 rfl ?_
      refine GA.iload dL_law_2113 rfl ?_
      refine GA.iconst dL_law_2115 ?_
      obtain ⟨x1247, hx1248, H⟩ := gv_e H
      refine GV.iadd hx1248 dL_law_2116 ?_
      obtain ⟨hg1249, H⟩ := gg_e H
      obtain ⟨x1250, hx1251, H⟩ := gv_e H
      refine GV.sld hg1249 hx1251 dL_law_2117 ?_
      refine GA.aload_n dL_law_2118 rfl ?_
      refine GA.iload dL_law_2119 rfl ?_
      refine GA.iconst dL_law_2121 ?_
      obtain ⟨x1252, hx1253, H⟩ := gv_e H
      refine GV.iadd hx1253 dL_law_2122 ?_
      obtain ⟨hg1254, H⟩ := gg_e H
      obtain ⟨x1255, hx1256, H⟩ := gv_e H
      refine GV.sld hg1254 hx1256 dL_law_2123 ?_
      obtain ⟨x1257, S_1258, hc1259, H⟩ := gc_e H
      refine GA.callV (m_X12_vary hL hc1259) xs_L_232 dL_law_2124 (gs_500 hL) (by decide) rfl rfl (by omega) (by decide) rfl (Nat.le_of_ble_eq_true rfl) (by omega) (by omega) rfl (fun E S9 hx => hx.elim) (fun v S9 hq => ?_)
      obtain ⟨rfl, rfl⟩ := hq
      refine GA.istore dL_law_2127 (by decide) ?_
      refine GA.aload_n dL_law_2129 rfl ?_
      obtain ⟨x1260, S_1261, hc1262, H⟩ := gc_e H
      refine GA.callV (m_X12_thrown hL hc1262) xs_L_131 dL_law_2130 (gs_500 hL) (by decide) rfl rfl (by omega) (by decide) rfl (Nat.le_of_ble_eq_true rfl) (by omega) (by omega) rfl (fun E S9 hx => hx.elim) (fun v S9 hq => ?_)
      obtain ⟨rfl, rfl⟩ := hq
      refine GA.iload dL_law_2133 rfl ?_
      obtain ⟨hg1263, H⟩ := gg_e H
      obtain ⟨hg1264, H⟩ := gg_e H
      refine GV.icmp_eq (tgt := 2140) hg1263 hg1264 dL_law_2135 (by decide) (fun c1265 => ?_) (fun c1265 => ?_)
      · have H := it_t H c1265
        refine GA.iload dL_law_2140 rfl ?_
        refine GV.if_ne (tgt := 2157) hg1264 dL_law_2142 (by decide) (fun c1266 => ?_) (fun c1266 => ?_)
        · have H := it_t H c1266
          refine GA.goto (tgt := 2279) dL_law_2157 (by decide) ?_
          refine GA.locals [(0, .ref Z.1.1), (1, .ref (L 468)), (2, .ref (L 500)), (3, .ref (L 600)), (4, .int (J a4))] ⟨rfl, rfl, rfl, rfl, rfl, trivial⟩ ?_
          exact ih_2279 hL hO _ _ (a4) _ _ H _ _ (by omega)
        · have H := it_f H c1266
          refine GA.aload_n dL_law_2145 rfl ?_
          refine GA.iconst dL_law_2146 ?_
          obtain ⟨x1267, hx1268, H⟩ := gv_e H
          refine GV.laldO hO hx1268 dL_law_2147 ?_
          refine GA.iload dL_law_2148 rfl ?_
          obtain ⟨hg1269, H⟩ := gg_e H
          refine GV.i2l hg1269 dL_law_2150 ?_
          obtain ⟨hg1270, H⟩ := gg_e H
          obtain ⟨hg1271, H⟩ := gg_e H
          obtain ⟨x1272, hx1273, H⟩ := gv_e H
          refine GV.lcmp hg1270 hg1271 hx1273 dL_law_2151 ?_
          obtain ⟨hg1274, H⟩ := gg_e H
          refine GV.if_eq (tgt := 2157) hg1274 dL_law_2152 (by decide) (fun c1275 => ?_) (fun c1275 => ?_)
          · have H := it_t H c1275
            refine GA.goto (tgt := 2279) dL_law_2157 (by decide) ?_
            refine GA.locals [(0, .ref Z.1.1), (1, .ref (L 468)), (2, .ref (L 500)), (3, .ref (L 600)), (4, .int (J a4))] ⟨rfl, rfl, rfl, rfl, rfl, trivial⟩ ?_
            exact ih_2279 hL hO _ _ (a4) _ _ H _ _ (by omega)
          · have H := it_f H c1275
            refine GA.iconst dL_law_2155 ?_
            cases H
            exact GV.zret (by decide) rfl dL_law_2156 (by omega) (by omega) ⟨rfl, rfl⟩
      · have H := it_f H c1265
        refine GA.iconst dL_law_2138 ?_
        cases H
        exact GV.zret (by decide) rfl dL_law_2139 (by omega) (by omega) ⟨rfl, rfl⟩
    have H := it_f H c1232
    by_cases c1276 : x9 = 32
    · have H := it_t H c1276
      refine GA.tableIn (tgt := 2160) dL_law_39 hg11 (by omega) (by omega) (by rw [c1276] <;> rfl) (by decide) ?_
      refine GA.aload_n dL_law_2160 rfl ?_
      refine GA.aload_n dL_law_2161 rfl ?_
      refine GA.iload dL_law_2162 rfl ?_
      refine GA.iconst dL_law_2164 ?_
      obtain ⟨x1277, hx1278, H⟩ := gv_e H
      refine GV.iadd hx1278 dL_law_2165 ?_
      obtain ⟨hg1279, H⟩ := gg_e H
      obtain ⟨x1280, hx1281, H⟩ := gv_e H
      refine GV.sld hg1279 hx1281 dL_law_2166 ?_
      refine GA.aload_n dL_law_2167 rfl ?_
      obtain ⟨hg1282, H⟩ := gg_e H
      obtain ⟨x1283, S_1284, hc1285, H⟩ := gc_e H
      refine GA.callW (m_L_sum hO hc1285) xs_L_233 dL_law_2168 rfl (by omega) (by decide) rfl (Nat.le_of_ble_eq_true rfl) (by omega) (by omega) (fun E S9 hx => hx) (fun v S9 hq => ?_)
      obtain ⟨rfl, rfl⟩ := hq
      refine GA.istore dL_law_2171 (by decide) ?_
      refine GA.aload_n dL_law_2173 rfl ?_
      refine GA.aload_n dL_law_2174 rfl ?_
      refine GA.iload dL_law_2175 rfl ?_
      refine GA.iconst dL_law_2177 ?_
      obtain ⟨x1286, hx1287, H⟩ := gv_e H
      refine GV.iadd hx1287 dL_law_2178 ?_
      obtain ⟨hg1288, H⟩ := gg_e H
      obtain ⟨x1289, hx1290, H⟩ := gv_e H
      refine GV.sld hg1288 hx1290 dL_law_2179 ?_
      obtain ⟨x1291, S_1292, hc1293, H⟩ := gc_e H
      refine GA.callV (m_X12_sum hL hc1293) xs_L_235 dL_law_2180 (gs_500 hL) (by decide) rfl rfl (by omega) (by decide) rfl (Nat.le_of_ble_eq_true rfl) (by omega) (by omega) rfl (fun E S9 hx => hx.elim) (fun v S9 hq => ?_)
      obtain ⟨rfl, rfl⟩ := hq
      refine GA.istore dL_law_2183 (by decide) ?_
      refine GA.aload_n dL_law_2185 rfl ?_
      obtain ⟨x1294, S_1295, hc1296, H⟩ := gc_e H
      refine GA.callV (m_X12_thrown hL hc1296) xs_L_131 dL_law_2186 (gs_500 hL) (by decide) rfl rfl (by omega) (by decide) rfl (Nat.le_of_ble_eq_true rfl) (by omega) (by omega) rfl (fun E S9 hx => hx.elim) (fun v S9 hq => ?_)
      obtain ⟨rfl, rfl⟩ := hq
      refine GA.iload dL_law_2189 rfl ?_
      obtain ⟨hg1297, H⟩ := gg_e H
      obtain ⟨hg1298, H⟩ := gg_e H
      refine GV.icmp_eq (tgt := 2196) hg1297 hg1298 dL_law_2191 (by decide) (fun c1299 => ?_) (fun c1299 => ?_)
      · have H := it_t H c1299
        refine GA.iload dL_law_2196 rfl ?_
        refine GV.if_ne (tgt := 2213) hg1298 dL_law_2198 (by decide) (fun c1300 => ?_) (fun c1300 => ?_)
        · have H := it_t H c1300
          refine GA.goto (tgt := 2279) dL_law_2213 (by decide) ?_
          refine GA.locals [(0, .ref Z.1.1), (1, .ref (L 468)), (2, .ref (L 500)), (3, .ref (L 600)), (4, .int (J a4))] ⟨rfl, rfl, rfl, rfl, rfl, trivial⟩ ?_
          exact ih_2279 hL hO _ _ (a4) _ _ H _ _ (by omega)
        · have H := it_f H c1300
          refine GA.aload_n dL_law_2201 rfl ?_
          refine GA.iconst dL_law_2202 ?_
          obtain ⟨x1301, hx1302, H⟩ := gv_e H
          refine GV.laldO hO hx1302 dL_law_2203 ?_
          refine GA.iload dL_law_2204 rfl ?_
          obtain ⟨hg1303, H⟩ := gg_e H
          refine GV.i2l hg1303 dL_law_2206 ?_
          obtain ⟨hg1304, H⟩ := gg_e H
          obtain ⟨hg1305, H⟩ := gg_e H
          obtain ⟨x1306, hx1307, H⟩ := gv_e H
          refine GV.lcmp hg1304 hg1305 hx1307 dL_law_2207 ?_
          obtain ⟨hg1308, H⟩ := gg_e H
          refine GV.if_eq (tgt := 2213) hg1308 dL_law_2208 (by decide) (fun c1309 => ?_) (fun c1309 => ?_)
          · have H := it_t H c1309
            refine GA.goto (tgt := 2279) dL_law_2213 (by decide) ?_
            refine GA.locals [(0, .ref Z.1.1), (1, .ref (L 468)), (2, .ref (L 500)), (3, .ref (L 600)), (4, .int (J a4))] ⟨rfl, rfl, rfl, rfl, rfl, trivial⟩ ?_
            exact ih_2279 hL hO _ _ (a4) _ _ H _ _ (by omega)
          · have H := it_f H c1309
            refine GA.iconst dL_law_2211 ?_
            cases H
            exact GV.zret (by decide) rfl dL_law_2212 (by omega) (by omega) ⟨rfl, rfl⟩
      · have H := it_f H c1299
        refine GA.iconst dL_law_2194 ?_
        cases H
        exact GV.zret (by decide) rfl dL_law_2195 (by omega) (by omega) ⟨rfl, rfl⟩
    have H := it_f H c1276
    by_cases c1310 : x9 = 33
    · have H := it_t H c1310
      refine GA.tableIn (tgt := 2216) dL_law_39 hg11 (by omega) (by omega) (by rw [c1310] <;> rfl) (by decide) ?_
      refine GA.aload_n dL_law_2216 rfl ?_
      refine GA.aload_n dL_law_2217 rfl ?_
      refine GA.iload dL_law_2218 rfl ?_
      refine GA.iconst dL_law_2220 ?_
      obtain ⟨x1311, hx1312, H⟩ := gv_e H
      refine GV.iadd hx1312 dL_law_2221 ?_
      obtain ⟨hg1313, H⟩ := gg_e H
      obtain ⟨x1314, hx1315, H⟩ := gv_e H
      refine GV.sld hg1313 hx1315 dL_law_2222 ?_
      refine GA.aload_n dL_law_2223 rfl ?_
      obtain ⟨hg1316, H⟩ := gg_e H
      obtain ⟨x1317, S_1318, hc1319, H⟩ := gc_e H
      refine GA.callW (m_L_isSound hO hc1319) xs_L_236 dL_law_2224 rfl (by omega) (by decide) rfl (Nat.le_of_ble_eq_true rfl) (by omega) (by omega) (fun E S9 hx => hx) (fun v S9 hq => ?_)
      obtain ⟨rfl, rfl⟩ := hq
      refine GA.istore dL_law_2227 (by decide) ?_
      refine GA.aload_n dL_law_2229 rfl ?_
      refine GA.aload_n dL_law_2230 rfl ?_
      refine GA.iload dL_law_2231 rfl ?_
      refine GA.iconst dL_law_2233 ?_
      obtain ⟨x1320, hx1321, H⟩ := gv_e H
      refine GV.iadd hx1321 dL_law_2234 ?_
      obtain ⟨hg1322, H⟩ := gg_e H
      obtain ⟨x1323, hx1324, H⟩ := gv_e H
      refine GV.sld hg1322 hx1324 dL_law_2235 ?_
      obtain ⟨x1325, S_1326, hc1327, H⟩ := gc_e H
      refine GA.callV (m_X12_isSound hL hc1327) xs_L_238 dL_law_2236 (gs_500 hL) (by decide) rfl rfl (by omega) (by decide) rfl (Nat.le_of_ble_eq_true rfl) (by omega) (by omega) rfl (fun E S9 hx => hx.elim) (fun v S9 hq => ?_)
      obtain ⟨rfl, rfl⟩ := hq
      refine GA.istore dL_law_2239 (by decide) ?_
      refine GA.aload_n dL_law_2241 rfl ?_
      obtain ⟨x1328, S_1329, hc1330, H⟩ := gc_e H
      refine GA.callV (m_X12_thrown hL hc1330) xs_L_131 dL_law_2242 (gs_500 hL) (by decide) rfl rfl (by omega) (by decide) rfl (Nat.le_of_ble_eq_true rfl) (by omega) (by omega) rfl (fun E S9 hx => hx.elim) (fun v S9 hq => ?_)
      obtain ⟨rfl, rfl⟩ := hq
      refine GA.iload dL_law_2245 rfl ?_
      obtain ⟨hg1331, H⟩ := gg_e H
      obtain ⟨hg1332, H⟩ := gg_e H
      refine GV.icmp_eq (tgt := 2252) hg1331 hg1332 dL_law_2247 (by decide) (fun c1333 => ?_) (fun c1333 => ?_)
      · have H := it_t H c1333
        refine GA.iload dL_law_2252 rfl ?_
        refine GV.if_ne (tgt := 2276) hg1332 dL_law_2254 (by decide) (fun c1334 => ?_) (fun c1334 => ?_)
        · have H := it_t H c1334
          refine GA.goto (tgt := 2279) dL_law_2276 (by decide) ?_
          refine GA.locals [(0, .ref Z.1.1), (1, .ref (L 468)), (2, .ref (L 500)), (3, .ref (L 600)), (4, .int (J a4))] ⟨rfl, rfl, rfl, rfl, rfl, trivial⟩ ?_
          exact ih_2279 hL hO _ _ (a4) _ _ H _ _ (by omega)
        · have H := it_f H c1334
          refine GA.aload_n dL_law_2257 rfl ?_
          refine GA.iconst dL_law_2258 ?_
          obtain ⟨x1335, hx1336, H⟩ := gv_e H
          refine GV.laldO hO hx1336 dL_law_2259 ?_
          refine GA.iload dL_law_2260 rfl ?_
          obtain ⟨hg1337, H⟩ := gg_e H
          refine GV.if_eq (tgt := 2269) hg1337 dL_law_2262 (by decide) (fun c1338 => ?_) (fun c1338 => ?_)
          · have H := it_t H c1338
            refine GV.lconst (z := 0) (by decide) dL_law_2269 ?_
            obtain ⟨hg1339, H⟩ := gg_e H
            obtain ⟨x1340, hx1341, H⟩ := gv_e H
            refine GV.lcmp hg1339 (by decide) hx1341 dL_law_2270 ?_
            obtain ⟨hg1342, H⟩ := gg_e H
            refine GV.if_eq (tgt := 2276) hg1342 dL_law_2271 (by decide) (fun c1343 => ?_) (fun c1343 => ?_)
            · have H := it_t H c1343
              refine GA.goto (tgt := 2279) dL_law_2276 (by decide) ?_
              refine GA.locals [(0, .ref Z.1.1), (1, .ref (L 468)), (2, .ref (L 500)), (3, .ref (L 600)), (4, .int (J a4))] ⟨rfl, rfl, rfl, rfl, rfl, trivial⟩ ?_
              exact ih_2279 hL hO _ _ (a4) _ _ H _ _ (by omega)
            · have H := it_f H c1343
              refine GA.iconst dL_law_2274 ?_
              cases H
              exact GV.zret (by decide) rfl dL_law_2275 (by omega) (by omega) ⟨rfl, rfl⟩
          · have H := it_f H c1338
            refine GV.lconst (z := 1) (by decide) dL_law_2265 ?_
            refine GA.goto (tgt := 2270) dL_law_2266 (by decide) ?_
            obtain ⟨hg1344, H⟩ := gg_e H
            obtain ⟨x1345, hx1346, H⟩ := gv_e H
            refine GV.lcmp hg1344 (by decide) hx1346 dL_law_2270 ?_
            obtain ⟨hg1347, H⟩ := gg_e H
            refine GV.if_eq (tgt := 2276) hg1347 dL_law_2271 (by decide) (fun c1348 => ?_) (fun c1348 => ?_)
            · have H := it_t H c1348
              refine GA.goto (tgt := 2279) dL_law_2276 (by decide) ?_
              refine GA.locals [(0, .ref Z.1.1), (1, .ref (L 468)), (2, .ref (L 500)), (3, .ref (L 600)), (4, .int (J a4))] ⟨rfl, rfl, rfl, rfl, rfl, trivial⟩ ?_
              exact ih_2279 hL hO _ _ (a4) _ _ H _ _ (by omega)
            · have H := it_f H c1348
              refine GA.iconst dL_law_2274 ?_
              cases H
              exact GV.zret (by decide) rfl dL_law_2275 (by omega) (by omega) ⟨rfl, rfl⟩
      · have H := it_f H c1333
        refine GA.iconst dL_law_2250 ?_
        cases H
        exact GV.zret (by decide) rfl dL_law_2251 (by omega) (by omega) ⟨rfl, rfl⟩
    have H := it_f H c1310
    refine GA.tableOut (tgt := 2279) dL_law_39 hg11 (by omega) (by decide) ?_
    refine GA.locals [(0, .ref Z.1.1), (1, .ref (L 468)), (2, .ref (L 500)), (3, .ref (L 600)), (4, .int (J a4))] ⟨rfl, rfl, rfl, rfl, rfl, trivial⟩ ?_
    exact ih_2279 hL hO _ _ (a4) _ _ H _ _ (by omega)
set_option maxHeartbeats 16000000 in
set_option maxRecDepth 100000 in
theorem t_L_law_2279 {l : Launch} {Z : XZ} {L : Nat → Nat} {mc ms : Nat} (n : Nat) (ih_23 : P_L_law_23 l Z L mc ms n) (ih_2279 : P_L_law_2279 l Z L mc ms n) : P_L_law_2279 l Z L mc ms (n + 1) := by
  intro hL hO d S a4 x S1 H nc ns hB
  have H : b_L_law_2279 Z.1.2.1 (fun k => (Z.1.2.2 k).toInt) n d (f_L_law Z.1.2.1 (fun k => (Z.1.2.2 k).toInt) n) S a4 = some (x, S1) := H
  unfold b_L_law_2279 at H
  obtain ⟨x1, hx2, H⟩ := gv_e H
  refine GV.iinc hx2 dL_law_2279 rfl (by decide) ?_
  refine GA.goto (tgt := 23) dL_law_2282 (by decide) ?_
  refine GA.locals [(0, .ref Z.1.1), (1, .ref (L 468)), (2, .ref (L 500)), (3, .ref (L 600)), (4, .int (J x1))] ⟨rfl, rfl, rfl, rfl, rfl, trivial⟩ ?_
  exact ih_23 hL hO _ _ (x1) _ _ H _ _ (by omega)
theorem g_L_law {l : Launch} {Z : XZ} {L : Nat → Nat} {mc ms : Nat} : ∀ n, P_L_law_23 l Z L mc ms n ∧ P_L_law_2279 l Z L mc ms n
  | 0 => ⟨fun _ _ _ _ _ _ _ H => no_e H, fun _ _ _ _ _ _ _ H => no_e H⟩
  | n + 1 => have ⟨h0, h1⟩ := g_L_law (l := l) (Z := Z) (L := L) (mc := mc) (ms := ms) n
    ⟨t_L_law_23 n h0 h1, t_L_law_2279 n h0 h1⟩
