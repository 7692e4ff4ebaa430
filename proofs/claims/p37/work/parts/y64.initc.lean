/-! THE CLASS MADE -/
def P_X11_init_193 (l : Launch) (Z : XZ) (L : Nat → Nat) (mc ms nc ns n : Nat) : Prop := ∀ (d : Nat) (S : GS) (x : Int) (S1 : GS), f_X11_init n d 193 S [] = some (x, S1) → GA l Z L yX11_init cX11_init 2 none [] d mc ms (fun v S' => v = none ∧ S1 = S') (fun _ _ => False) 193 (gl [(0, .ref (L 468))]) [] S nc ns
set_option maxHeartbeats 4000000 in
set_option maxRecDepth 20000 in
theorem t_X11_init_193 {l : Launch} {Z : XZ} {L : Nat → Nat} {mc ms nc ns : Nat} (hnc : nc ≤ mc) (hns : ns ≤ ms) (n : Nat) (ih_X11_init_193 : P_X11_init_193 l Z L mc ms nc ns n) : P_X11_init_193 l Z L mc ms nc ns (n + 1) := by
  intro d S  x S1 H
  have H : b_X11_init_193 n d (f_X11_init n) S  = some (x, S1) := H
  unfold b_X11_init_193 at H
  refine GA.aload_n dX11_init_193 rfl ?_
  refine GA.get xf_X11_22 dX11_init_194 gs_468 (by decide) rfl ?_
  obtain ⟨hg1, H⟩ := gg_e H
  obtain ⟨x2, S_3, hc4, H⟩ := gc_e H
  refine GA.callS (m_X8_standardTo hc4) xs_X11_95 dX11_init_197 rfl (by omega) (by decide) rfl (Nat.le_of_ble_eq_true rfl) (by omega) (by omega) rfl (fun E S9 hx => hx.elim) (fun v S9 hq => ?_)
  obtain ⟨rfl, rfl⟩ := hq
  refine GA.aload_n dX11_init_200 rfl ?_
  refine GA.get xf_X11_42 dX11_init_201 gs_468 (by decide) rfl ?_
  refine GA.aload_n dX11_init_204 rfl ?_
  refine GA.get xf_X11_22 dX11_init_205 gs_468 (by decide) rfl ?_
  refine GA.iconst dX11_init_208 ?_
  obtain ⟨x5, S_6, hc7, H⟩ := gc_e H
  refine GA.callV (m_X6_parse hc7) xs_X11_101 dX11_init_209 gs_470 (by decide) rfl rfl (by omega) (by decide) rfl (Nat.le_of_ble_eq_true rfl) (by omega) (by omega) rfl (fun E S9 hx => hx.elim) (fun v S9 hq => ?_)
  obtain ⟨rfl, rfl⟩ := hq
  refine GA.pop dX11_init_212 rfl ?_
  refine GA.aload_n dX11_init_213 rfl ?_
  refine GA.get xf_X11_36 dX11_init_214 gs_468 (by decide) rfl ?_
  refine GA.aload_n dX11_init_217 rfl ?_
  refine GA.get xf_X11_42 dX11_init_218 gs_468 (by decide) rfl ?_
  obtain ⟨x8, S_9, hc10, H⟩ := gc_e H
  refine GA.callV (m_X6_result hc10) xs_X11_105 dX11_init_221 gs_470 (by decide) rfl rfl (by omega) (by decide) rfl (Nat.le_of_ble_eq_true rfl) (by omega) (by omega) rfl (fun E S9 hx => hx.elim) (fun v S9 hq => ?_)
  obtain ⟨rfl, rfl⟩ := hq
  refine GA.iconst dX11_init_224 ?_
  obtain ⟨x11, S_12, hc13, H⟩ := gc_e H
  refine GA.callV (m_X10_copyOf hc13) xs_X11_109 dX11_init_225 (gsT (by decide)) (by decide) rfl rfl (by omega) (by decide) rfl (Nat.le_of_ble_eq_true rfl) (by omega) (by omega) rfl (fun E S9 hx => hx.elim) (fun v S9 hq => ?_)
  obtain ⟨rfl, rfl⟩ := hq
  cases H
  exact GA.vret rfl dX11_init_228 (by omega) (by omega) ⟨rfl, rfl⟩
theorem g_X11_init {l : Launch} {Z : XZ} {L : Nat → Nat} {mc ms nc ns : Nat} (hnc : nc ≤ mc) (hns : ns ≤ ms) : ∀ n, P_X11_init_193 l Z L mc ms nc ns n
  | 0 => fun _ _ _ _ H => no_e H
  | n + 1 => t_X11_init_193 hnc hns n (g_X11_init hnc hns n)

theorem nd_inj {l : List Nat} (h : l.Nodup) {i j : Nat} (hi : i < l.length) (hj : j < l.length) (e : l.getD i 0 = l.getD j 0) : i = j := by
  have hp := List.pairwise_iff_getElem.mp h
  rw [List.getD_eq_getElem?_getD, List.getD_eq_getElem?_getD, List.getElem?_eq_getElem hi, List.getElem?_eq_getElem hj] at e
  simp only [Option.getD_some] at e
  rcases Nat.lt_trichotomy i j with q | q | q
  · exact absurd e (hp i j hi hj q)
  · exact q
  · exact absurd e.symm (hp j i hj hi q)
theorem nd_le (l : List Nat) : ∃ M, ∀ a ∈ l, a < M := by
  induction l with
  | nil => exact ⟨0, fun a h => by cases h⟩
  | cons b l ih =>
    obtain ⟨M, hM⟩ := ih
    refine ⟨M + b + 1, fun a h => ?_⟩
    rcases List.mem_cons.mp h with rfl | h
    · omega
    · have := hM a h; omega
theorem gd_left {l m : List Nat} {i : Nat} (h : i < l.length) : (l ++ m).getD i 0 = l.getD i 0 := by
  rw [List.getD_eq_getElem?_getD, List.getElem?_append_left h, ← List.getD_eq_getElem?_getD]
theorem getD_mem {l : List Nat} {i : Nat} (h : i < l.length) : l.getD i 0 ∈ l := by
  rw [List.getD_eq_getElem?_getD, List.getElem?_eq_getElem h]
  exact List.getElem_mem h
/-- the documents so far -/
def fdoc (dl : Nat → Nat) (i : Nat) : Nat → Option Nat := fun k => if k < i then some (dl (8 * k)) else none
def DB (dl : Nat → Nat) (t : Nat) : List (Nat × XC) := [(dl (8 * t), xO 9 [.ref (dl (8 * t + 1)), .ref (dl (8 * t + 2)), .ref (dl (8 * t + 3)), .ref (dl (8 * t + 4)), .ref (dl (8 * t + 5)), .ref (dl (8 * t + 6)), .ref (dl (8 * t + 7)), .int 0, .int 0]), (dl (8 * t + 1), xI 0 100 xz), (dl (8 * t + 2), xI 0 100 xz), (dl (8 * t + 3), xI 0 100 xz), (dl (8 * t + 4), xI 0 100 xz), (dl (8 * t + 5), xI 2 4000 xz), (dl (8 * t + 6), xI 0 100 xz), (dl (8 * t + 7), xI 2 1200 xz)]
def dblk (dl : Nat → Nat) (i : Nat) : List (Nat × XC) := (List.range i).flatMap (DB dl)
def dstep (dl : Nat → Nat) (i : Nat) (as : List Nat) : Nat → Nat := fun c => if c < 8 * i then dl c else as.getD (c - 8 * i) 0
theorem dstep_o {dl : Nat → Nat} {i c : Nat} {as : List Nat} (h : c < 8 * i) : dstep dl i as c = dl c := if_pos h
theorem dstep_n {dl : Nat → Nat} {i j : Nat} {as : List Nat} : dstep dl i as (8 * i + j) = as.getD j 0 := by
  unfold dstep
  rw [if_neg (by omega), show 8 * i + j - 8 * i = j by omega]
theorem DB_o {dl : Nat → Nat} {i t : Nat} {as : List Nat} (h : t < i) : DB (dstep dl i as) t = DB dl t := by
  unfold DB
  rw [dstep_o (by omega), dstep_o (by omega), dstep_o (by omega), dstep_o (by omega), dstep_o (by omega), dstep_o (by omega), dstep_o (by omega), dstep_o (by omega)]
theorem dblk_s {dl : Nat → Nat} {i : Nat} {as : List Nat} : dblk (dstep dl i as) (i + 1) = dblk dl i ++ DB (dstep dl i as) i := by
  unfold dblk
  rw [List.range_succ, List.flatMap_append]
  congr 1
  · rw [List.flatMap_def, List.flatMap_def]
    congr 1
    exact List.map_congr_left (fun t ht => DB_o (List.mem_range.mp ht))
theorem DB_n {dl : Nat → Nat} {i q a1 a2 a3 a4 a5 a6 a7 : Nat} : DB (dstep dl i [q, a1, a2, a3, a4, a5, a6, a7]) i = (q, xO 9 [.ref a1, .ref a2, .ref a3, .ref a4, .ref a5, .ref a6, .ref a7, .int 0, .int 0]) :: [(a1, xI 0 100 xz), (a2, xI 0 100 xz), (a3, xI 0 100 xz), (a4, xI 0 100 xz), (a5, xI 2 4000 xz), (a6, xI 0 100 xz), (a7, xI 2 1200 xz)] := by
  have e0 : dstep dl i [q, a1, a2, a3, a4, a5, a6, a7] (8 * i) = q := dstep_n (j := 0)
  unfold DB
  rw [e0, dstep_n, dstep_n, dstep_n, dstep_n, dstep_n, dstep_n, dstep_n]
  rfl
theorem fdoc_s {dl : Nat → Nat} {i : Nat} {as : List Nat} (hi : ((i : Nat) : Int) < 2147483648) : va_up (fdoc dl i) (J ((i : Nat) : Int)).toNatClampNeg (some (as.getD 0 0)) = fdoc (dstep dl i as) (i + 1) := by
  rw [J_nat (by omega) hi]
  simp only [Int.toNat_natCast]
  funext k
  unfold va_up fdoc
  by_cases e : k = i
  · subst e
    rw [if_pos rfl, if_pos (by omega)]
    have := dstep_n (dl := dl) (i := k) (j := 0) (as := as)
    rw [show 8 * k + 0 = 8 * k from rfl] at this
    rw [this]
  · rw [if_neg e]
    by_cases h : k < i
    · rw [if_pos h, if_pos (by omega), dstep_o (by omega)]
    · rw [if_neg h, if_neg (by omega)]
set_option maxHeartbeats 4000000 in
set_option maxRecDepth 20000 in
theorem x11_loop {l : Launch} {Z : XZ} {d mc ms : Nat} {Q : Option Value → XH → Prop} {X : String → XH → Prop} {h : XH} {b qd : Nat} {fs : List Value} {pA pB : List (Nat × XC)} (hfs : fs[3]? = some (.ref qd)) (nc0 ns0 : Nat) (hd : 3 ≤ d) (hmc : nc0 + 8 * 40 ≤ mc) (hms : ns0 + 5709 * 40 ≤ ms)
    (kx : ∀ (dl : Nat → Nat) (h2 : XH), Cn h h2 b (xO 10 fs) (pA ++ (qd, xR 40 (fdoc dl 40)) :: (pB ++ dblk dl 40)) → XA l Z yX11_init cX11_init 2 none [] d mc ms Q X 193 [(0, .ref b)] [] h2 (nc0 + 8 * 40) (ns0 + 5709 * 40)) :
    ∀ m i, i + m = 40 → ∀ (dl : Nat → Nat) (h1 : XH), Cn h h1 b (xO 10 fs) (pA ++ (qd, xR 40 (fdoc dl i)) :: (pB ++ dblk dl i)) → XA l Z yX11_init cX11_init 2 none [] d mc ms Q X 165 [(1, .int (J ((i : Nat) : Int))), (0, .ref b)] [] h1 (nc0 + 8 * i) (ns0 + 5709 * i) := by
  intro m
  induction m with
  | zero =>
    intro i hi dl h1 hC
    obtain rfl : i = 40 := by omega
    refine XA.iload_n dX11_init_165 rfl ?_
    refine XA.aload_n dX11_init_166 rfl ?_
    refine XA.get xf_X11_27 dX11_init_167 hC.2.1 hfs ?_
    refine XA.alen (v := J ((40 : Nat) : Int)) (by decide) dX11_init_170 (hC.2.2.2.1 (qd, _) (List.mem_append_right _ List.mem_cons_self)) rfl ?_
    refine XJ.icmp_ge (tgt := 193) dX11_init_171 (by decide) (by decide) (by decide) (fun _ => ?_) (fun c => absurd c (by decide))
    refine XA.locals (lv1 := [(0, .ref b)]) (fun q hq => List.mem_cons_of_mem _ hq) ?_
    exact kx dl h1 hC
  | succ m ih =>
    intro i hi dl h1 hC
    refine XA.iload_n dX11_init_165 rfl ?_
    refine XA.aload_n dX11_init_166 rfl ?_
    refine XA.get xf_X11_27 dX11_init_167 hC.2.1 hfs ?_
    refine XA.alen (v := J ((40 : Nat) : Int)) (by decide) dX11_init_170 (hC.2.2.2.1 (qd, _) (List.mem_append_right _ List.mem_cons_self)) rfl ?_
    refine XJ.icmp_ge (tgt := 193) dX11_init_171 (by decide) ⟨by omega, by omega⟩ (by decide) (fun c => by omega) (fun _ => ?_)
    refine XA.aload_n dX11_init_174 rfl ?_
    refine XA.get xf_X11_27 dX11_init_175 hC.2.1 hfs ?_
    refine XA.iload_n dX11_init_178 rfl ?_
    refine XA.new (xnw_X10 xcl_X11_25) dX11_init_179 (by omega) (by omega) (fun q hq => ?_)
    refine XA.dup dX11_init_182 rfl ?_
    refine XA.callI (As := []) (n_X10 (d := d - 1) xup_s) xs_X11_31 dX11_init_183 rfl (by omega) (by decide) rfl (Nat.le_of_ble_eq_true rfl) (by omega) (by omega) (fun E h9 hx => hx.elim) (fun v h9 hq9 => ?_)
    obtain ⟨rfl, a1, a2, a3, a4, a5, a6, a7, hN⟩ := hq9
    have hC := cn_obj hC hq hN
    rw [List.append_assoc, List.cons_append, List.append_assoc] at hC
    refine XA.aast dX11_init_186 (hC.2.2.2.1 (qd, _) (List.mem_append_right _ List.mem_cons_self)) (hC.2.2.2.1 (q, _) (List.mem_append_right _ (List.mem_cons_of_mem _ (List.mem_append_right _ (List.mem_append_right _ List.mem_cons_self))))) (J_in (by omega) (by omega) (by omega)) ?_
    have hC := cn_set (e2 := xR 40 (va_up (fdoc dl i) (J ((i : Nat) : Int)).toNatClampNeg (some q))) hC
    have e1 := fdoc_s (dl := dl) (i := i) (as := [q, a1, a2, a3, a4, a5, a6, a7]) (by omega)
    have e1 : va_up (fdoc dl i) (J ((i : Nat) : Int)).toNatClampNeg (some q) = fdoc (dstep dl i [q, a1, a2, a3, a4, a5, a6, a7]) (i + 1) := e1
    rw [e1] at hC ⊢
    rw [← DB_n (dl := dl) (i := i), ← dblk_s] at hC
    refine XA.iinc (v := J (((i + 1 : Nat)) : Int)) dX11_init_187 rfl ?_ (by decide) rfl ?_
    · rw [show Int32.ofInt 1 = J 1 from rfl, J_add]
      rfl
    refine XA.goto (tgt := 165) dX11_init_190 (by decide) ?_
    have hk := ih (i + 1) (by omega) _ _ hC
    refine XA.widen (nc' := nc0 + 8 * (i + 1)) (ns' := ns0 + 5709 * (i + 1)) (by omega) (by omega) ?_
    exact hk
def posL : List Nat := [8, 9, 10, 11, 12, 13, 14, 15, 16, 17, 18, 19, 20, 21, 22, 23, 25, 26, 27, 28, 29, 30, 31, 32, 33, 34, 35, 36, 37, 38, 39, 40, 70, 71, 72, 73, 74, 75, 76, 77, 79, 80, 81, 82, 83, 84, 85, 86, 87, 88, 89, 90, 91, 92, 93, 94, 95, 96, 97, 98, 99, 100, 101, 102, 103, 104, 105, 106, 107, 108, 109, 110, 122, 123, 124, 125, 126, 127, 128, 129, 136, 137, 138, 139, 140, 141, 142, 143, 155, 156, 157, 158, 159, 160, 161, 162, 163, 164, 165, 166, 167, 168, 169, 170, 1, 2, 3, 4, 5, 6, 41, 42, 43, 44, 45, 46, 48, 49, 50, 51, 54, 55, 56, 57, 58, 59, 64, 65, 112, 113, 114, 115, 117, 118, 119, 120, 130, 131, 132, 133, 144, 145, 146, 147, 171, 172, 173, 174, 0, 7, 24, 47, 52, 53, 60, 61, 62, 63, 66, 67, 68, 69, 78, 111, 116, 121, 134, 135, 148, 149, 150, 151, 152, 153, 154]
def idL : List Nat := [468, 424, 425, 426, 427, 428, 429, 469, 320, 321, 322, 323, 324, 325, 326, 327, 328, 329, 330, 331, 332, 333, 334, 335, 470, 336, 337, 338, 339, 340, 341, 342, 343, 344, 345, 346, 347, 348, 349, 350, 351, 430, 431, 432, 433, 434, 435, 471, 436, 437, 438, 439, 472, 473, 440, 441, 442, 443, 444, 445, 474, 475, 476, 477, 446, 447, 478, 479, 480, 481, 352, 353, 354, 355, 356, 357, 358, 359, 482, 360, 361, 362, 363, 364, 365, 366, 367, 368, 369, 370, 371, 372, 373, 374, 375, 376, 377, 378, 379, 380, 381, 382, 383, 384, 385, 386, 387, 388, 389, 390, 391, 483, 448, 449, 450, 451, 484, 452, 453, 454, 455, 485, 392, 393, 394, 395, 396, 397, 398, 399, 456, 457, 458, 459, 486, 487, 400, 401, 402, 403, 404, 405, 406, 407, 460, 461, 462, 463, 488, 489, 490, 491, 492, 493, 494, 408, 409, 410, 411, 412, 413, 414, 415, 416, 417, 418, 419, 420, 421, 422, 423, 464, 465, 466, 467]
def LLc (dl : Nat → Nat) (vs : List Nat) (M : Nat) : Nat → Nat := fun c => if c < 320 then dl c else if c < 495 then vs.getD (posL.getD (c - 320) 0) 0 else if c < 700 then M + c else 0
theorem posL_ok : ∀ i, i < 175 → posL.getD i 0 < 175 ∧ idL.getD (posL.getD i 0) 0 = i + 320 := by decide +kernel
theorem LLc_d {dl : Nat → Nat} {vs : List Nat} {M c : Nat} (h : c < 320) : LLc dl vs M c = dl c := if_pos h
theorem LLc_v {dl : Nat → Nat} {vs : List Nat} {M c : Nat} (h1 : 320 ≤ c) (h2 : c < 495) : LLc dl vs M c = vs.getD (posL.getD (c - 320) 0) 0 := by
  unfold LLc
  rw [if_neg (by omega), if_pos h2]
theorem LLc_m {dl : Nat → Nat} {vs : List Nat} {M c : Nat} (h1 : 495 ≤ c) (h2 : c < 700) : LLc dl vs M c = M + c := by
  unfold LLc
  rw [if_neg (by omega), if_neg (by omega), if_pos h2]
theorem LLc_inj {dl : Nat → Nat} {vs : List Nat} {M : Nat} (hl : vs.length = 175) (hn : (vs ++ (List.range 320).map dl).Nodup) (hM : ∀ a ∈ vs ++ (List.range 320).map dl, a < M) : ∀ c c', c < 700 → c' < 700 → LLc dl vs M c = LLc dl vs M c' → c = c' := by
  -- every thing by a place in one row without repetition
  have hx : ∀ c, c < 495 → ∃ i, i < 495 ∧ LLc dl vs M c = (vs ++ (List.range 320).map dl).getD i 0 ∧ (c < 320 → i = 175 + c) ∧ (320 ≤ c → i = posL.getD (c - 320) 0) := by
    intro c hc
    by_cases h : c < 320
    · refine ⟨175 + c, by omega, ?_, fun _ => rfl, fun q => by omega⟩
      rw [LLc_d h, List.getD_eq_getElem?_getD, List.getElem?_append_right (by omega), hl, show 175 + c - 175 = c by omega]
      simp [h]
    · refine ⟨posL.getD (c - 320) 0, ?_, ?_, fun q => absurd q h, fun _ => rfl⟩
      · have := (posL_ok (c - 320) (by omega)).1; omega
      · have h9 := (posL_ok (c - 320) (by omega)).1
        rw [LLc_v (by omega) hc, gd_left (by omega)]
  have hlen : (vs ++ (List.range 320).map dl).length = 495 := by simp [hl]
  have key : ∀ c c', c < 700 → c' < 700 → LLc dl vs M c = LLc dl vs M c' → c < 495 → c = c' := by
    intro c c' h1 h2 e hc
    obtain ⟨i, hi, e1, p1, p2⟩ := hx c hc
    by_cases hc' : c' < 495
    · obtain ⟨i2, hi2, e2, r1, r2⟩ := hx c' hc'
      have hii : i = i2 := nd_inj hn (by omega) (by omega) (by rw [← e1, ← e2]; exact e)
      subst hii
      by_cases a : c < 320
      · by_cases a2 : c' < 320
        · have := p1 a; have := r1 a2; omega
        · have := p1 a; have := r2 (by omega); have := (posL_ok (c' - 320) (by omega)).1; omega
      · by_cases a2 : c' < 320
        · have := r1 a2; have := p2 (by omega); have := (posL_ok (c - 320) (by omega)).1; omega
        · have q1 := p2 (by omega)
          have q2 := r2 (by omega)
          have k1 := (posL_ok (c - 320) (by omega)).2
          have k2 := (posL_ok (c' - 320) (by omega)).2
          rw [← q1] at k1
          rw [← q2, k1] at k2
          omega
    · exfalso
      rw [LLc_m (c := c') (by omega) h2, e1] at e
      have := hM _ (getD_mem (l := vs ++ (List.range 320).map dl) (i := i) (by omega))
      omega
  intro c c' h1 h2 e
  by_cases hc : c < 495
  · exact key c c' h1 h2 e hc
  · by_cases hc' : c' < 495
    · exact (key c' c h2 h1 e.symm hc').symm
    · rw [LLc_m (by omega) h1, LLc_m (by omega) h2] at e
      omega
theorem dblk_f (dl : Nat → Nat) : (dblk dl 40).map Prod.fst = (List.range 320).map dl := by
  have : ∀ i, (dblk dl i).map Prod.fst = (List.range (8 * i)).map dl := by
    intro i
    induction i with
    | zero => rfl
    | succ i ih =>
      have e : dblk dl (i + 1) = dblk dl i ++ DB dl i := by
        unfold dblk
        rw [List.range_succ, List.flatMap_append]
        simp
      rw [e, List.map_append, ih, show 8 * (i + 1) = 8 * i + 1 + 1 + 1 + 1 + 1 + 1 + 1 + 1 by omega]
      simp only [List.range_succ, List.map_append, List.append_assoc]
      rfl
  exact this 40
theorem dblk_m {dl : Nat → Nat} {t : Nat} (h : t < 40) {e : Nat × XC} (he : e ∈ DB dl t) : e ∈ dblk dl 40 := List.mem_flatMap.mpr ⟨t, List.mem_range.mpr h, he⟩
theorem ids_in : ∀ c, c < 495 → ¬ c < 320 → c ∈ ([320, 321, 322, 323, 324, 325, 326, 327, 328, 329, 330, 331, 332, 333, 334, 335, 336, 337, 338, 339, 340, 341, 342, 343, 344, 345, 346, 347, 348, 349, 350, 351, 352, 353, 354, 355, 356, 357, 358, 359] ++ ([360, 361, 362, 363, 364, 365, 366, 367, 368, 369, 370, 371, 372, 373, 374, 375, 376, 377, 378, 379, 380, 381, 382, 383, 384, 385, 386, 387, 388, 389, 390, 391, 392, 393, 394, 395, 396, 397, 398, 399] ++ ([400, 401, 402, 403, 404, 405, 406, 407, 408, 409, 410, 411, 412, 413, 414, 415, 416, 417, 418, 419, 420, 421, 422, 423, 424, 425, 426, 427, 428, 429, 430, 431, 432, 433, 434, 435, 436, 437, 438, 439] ++ ([440, 441, 442, 443, 444, 445, 446, 447, 448, 449, 450, 451, 452, 453, 454, 455, 456, 457, 458, 459, 460, 461, 462, 463, 464, 465, 466, 467, 468, 469, 470, 471, 472, 473, 474, 475, 476, 477, 478, 479] ++ [480, 481, 482, 483, 484, 485, 486, 487, 488, 489, 490, 491, 492, 493, 494])))) := by decide +kernel
set_option maxHeartbeats 16000000 in
set_option maxRecDepth 100000 in
theorem gh_class {h h2 : XH} {dl : Nat → Nat} {b v1 v2 v3 v4 v5 v6 v7 v8 v9 v10 v11 v12 v13 v14 v15 v16 v17 v18 v19 v20 v21 v22 v23 v24 v25 v26 v27 v28 v29 v30 v31 v32 v33 v34 v35 v36 v37 v38 v39 v40 v41 v42 v43 v44 v45 v46 v47 v48 v49 v50 v51 v52 v53 v54 v55 v56 v57 v58 v59 v60 v61 v62 v63 v64 v65 v66 v67 v68 v69 v70 v71 v72 v73 v74 v75 v76 v77 v78 v79 v80 v81 v82 v83 v84 v85 v86 v87 v88 v89 v90 v91 v92 v93 v94 v95 v96 v97 v98 v99 v100 v101 v102 v103 v104 v105 v106 v107 v108 v109 v110 v111 v112 v113 v114 v115 v116 v117 v118 v119 v120 v121 v122 v123 v124 v125 v126 v127 v128 v129 v130 v131 v132 v133 v134 v135 v136 v137 v138 v139 v140 v141 v142 v143 v144 v145 v146 v147 v148 v149 v150 v151 v152 v153 v154 v155 v156 v157 v158 v159 v160 v161 v162 v163 v164 v165 v166 v167 v168 v169 v170 v171 v172 v173 v174 : Nat} (hC : Cn h h2 b (xO 10 [.ref v1, .ref v3, .ref v5, .ref v7, .ref v8, .ref v16, .ref v24, .ref v47, .ref v53, .ref v63, .ref v78, .ref v121, .ref v135, .ref v154, .int 0, .int 0]) ([(v1, xO 8 [.ref v2, .int 0]), (v2, xI 2 400 xz), (v3, xO 8 [.ref v4, .int 0]), (v4, xI 2 36000 xz), (v5, xO 8 [.ref v6, .int 0]), (v6, xI 2 36000 xz)] ++ (v7, xR 40 (fdoc dl 40)) :: (([(v8, xO 9 [.ref v9, .ref v10, .ref v11, .ref v12, .ref v13, .ref v14, .ref v15, .int 0, .int 0]), (v9, xI 0 100 xz), (v10, xI 0 100 xz), (v11, xI 0 100 xz), (v12, xI 0 100 xz), (v13, xI 2 4000 xz), (v14, xI 0 100 xz), (v15, xI 2 1200 xz), (v16, xO 9 [.ref v17, .ref v18, .ref v19, .ref v20, .ref v21, .ref v22, .ref v23, .int 0, .int 0]), (v17, xI 0 100 xz), (v18, xI 0 100 xz), (v19, xI 0 100 xz), (v20, xI 0 100 xz), (v21, xI 2 4000 xz), (v22, xI 0 100 xz), (v23, xI 2 1200 xz), (v24, xO 6 [.ref v25, .ref v33, .ref v41, .ref v43, .ref v45, .ref v41, .int 0, .int 0, .int 0, .int 0]), (v25, xO 9 [.ref v26, .ref v27, .ref v28, .ref v29, .ref v30, .ref v31, .ref v32, .int 0, .int 0]), (v26, xI 0 100 xz), (v27, xI 0 100 xz), (v28, xI 0 100 xz), (v29, xI 0 100 xz), (v30, xI 2 4000 xz), (v31, xI 0 100 xz), (v32, xI 2 1200 xz), (v33, xO 9 [.ref v34, .ref v35, .ref v36, .ref v37, .ref v38, .ref v39, .ref v40, .int 0, .int 0]), (v34, xI 0 100 xz), (v35, xI 0 100 xz), (v36, xI 0 100 xz), (v37, xI 0 100 xz), (v38, xI 2 4000 xz), (v39, xI 0 100 xz), (v40, xI 2 1200 xz), (v41, xO 8 [.ref v42, .int 0]), (v42, xI 2 12 xz), (v43, xO 8 [.ref v44, .int 0]), (v44, xI 2 40 xz), (v45, xO 8 [.ref v46, .int 0]), (v46, xI 2 24 xz), (v47, xO 7 [.ref v48, .ref v50, .ref v52, .int 0])] ++ ([(v48, xO 8 [.ref v49, .int 0]), (v49, xI 2 400 xz), (v50, xO 8 [.ref v51, .int 0]), (v51, xI 2 400 xz), (v52, xI 0 400 xz), (v53, xO 2 [.ref v54, .ref v56, .ref v58, .ref v60, .ref v61, .ref v62, .int 0]), (v54, xO 8 [.ref v55, .int 0]), (v55, xI 2 400 xz), (v56, xO 8 [.ref v57, .int 0]), (v57, xI 2 400 xz), (v58, xO 8 [.ref v59, .int 0]), (v59, xI 2 36000 xz), (v60, xI 0 100 xz), (v61, xI 0 100 xz), (v62, xI 3 100 xz), (v63, xO 5 [.ref v64, .ref v66, .ref v67, .ref v68, .ref v69, .ref v70, .ref v70, .ref v70]), (v64, xO 8 [.ref v65, .int 0]), (v65, xI 2 400 xz), (v66, xI 3 10000 xz), (v67, xI 0 10000 xz), (v68, xI 0 100 xz), (v69, xI 0 100 xz), (v70, xO 9 [.ref v71, .ref v72, .ref v73, .ref v74, .ref v75, .ref v76, .ref v77, .int 0, .int 0]), (v71, xI 0 100 xz), (v72, xI 0 100 xz), (v73, xI 0 100 xz), (v74, xI 0 100 xz), (v75, xI 2 4000 xz), (v76, xI 0 100 xz), (v77, xI 2 1200 xz), (v78, xO 1 [.ref v79, .ref v87, .ref v95, .ref v103, .ref v111, .ref v117, .ref v119, .int 0, .int 0, .int 0, .int 0, .int 0]), (v79, xO 9 [.ref v80, .ref v81, .ref v82, .ref v83, .ref v84, .ref v85, .ref v86, .int 0, .int 0]), (v80, xI 0 100 xz), (v81, xI 0 100 xz), (v82, xI 0 100 xz), (v83, xI 0 100 xz), (v84, xI 2 4000 xz), (v85, xI 0 100 xz), (v86, xI 2 1200 xz), (v87, xO 9 [.ref v88, .ref v89, .ref v90, .ref v91, .ref v92, .ref v93, .ref v94, .int 0, .int 0])] ++ ([(v88, xI 0 100 xz), (v89, xI 0 100 xz), (v90, xI 0 100 xz), (v91, xI 0 100 xz), (v92, xI 2 4000 xz), (v93, xI 0 100 xz), (v94, xI 2 1200 xz), (v95, xO 9 [.ref v96, .ref v97, .ref v98, .ref v99, .ref v100, .ref v101, .ref v102, .int 0, .int 0]), (v96, xI 0 100 xz), (v97, xI 0 100 xz), (v98, xI 0 100 xz), (v99, xI 0 100 xz), (v100, xI 2 4000 xz), (v101, xI 0 100 xz), (v102, xI 2 1200 xz), (v103, xO 9 [.ref v104, .ref v105, .ref v106, .ref v107, .ref v108, .ref v109, .ref v110, .int 0, .int 0]), (v104, xI 0 100 xz), (v105, xI 0 100 xz), (v106, xI 0 100 xz), (v107, xI 0 100 xz), (v108, xI 2 4000 xz), (v109, xI 0 100 xz), (v110, xI 2 1200 xz), (v111, xO 7 [.ref v112, .ref v114, .ref v116, .int 0]), (v112, xO 8 [.ref v113, .int 0]), (v113, xI 2 400 xz), (v114, xO 8 [.ref v115, .int 0]), (v115, xI 2 400 xz), (v116, xI 0 400 xz), (v117, xO 8 [.ref v118, .int 0]), (v118, xI 2 400 xz), (v119, xO 8 [.ref v120, .int 0]), (v120, xI 2 400 xz), (v121, xO 4 [.ref v122, .ref v130, .ref v132, .ref v134, .ref v122, .ref v122, .ref v122, .int 0, .int 0]), (v122, xO 9 [.ref v123, .ref v124, .ref v125, .ref v126, .ref v127, .ref v128, .ref v129, .int 0, .int 0]), (v123, xI 0 100 xz), (v124, xI 0 100 xz), (v125, xI 0 100 xz), (v126, xI 0 100 xz), (v127, xI 2 4000 xz)] ++ ([(v128, xI 0 100 xz), (v129, xI 2 1200 xz), (v130, xO 8 [.ref v131, .int 0]), (v131, xI 2 400 xz), (v132, xO 8 [.ref v133, .int 0]), (v133, xI 2 60000 xz), (v134, xI 0 200 xz), (v135, xO 0 [.ref v136, .ref v144, .ref v146, .ref v148, .ref v149, .ref v150, .ref v151, .ref v152, .ref v153, .ref v136, .ref v136, .int 0, .int 0, .int 0, .int 0, .int 0, .int 0]), (v136, xO 9 [.ref v137, .ref v138, .ref v139, .ref v140, .ref v141, .ref v142, .ref v143, .int 0, .int 0]), (v137, xI 0 100 xz), (v138, xI 0 100 xz), (v139, xI 0 100 xz), (v140, xI 0 100 xz), (v141, xI 2 4000 xz), (v142, xI 0 100 xz), (v143, xI 2 1200 xz), (v144, xO 8 [.ref v145, .int 0]), (v145, xI 2 40 xz), (v146, xO 8 [.ref v147, .int 0]), (v147, xI 2 24 xz), (v148, xI 0 13 xz), (v149, xI 0 13 xz), (v150, xI 0 1000 xz), (v151, xI 0 1000 xz), (v152, xI 0 1000 xz), (v153, xI 0 1000 xz), (v154, xO 3 [.ref v155, .ref v163, .ref v171, .ref v173, .int 0]), (v155, xO 9 [.ref v156, .ref v157, .ref v158, .ref v159, .ref v160, .ref v161, .ref v162, .int 0, .int 0]), (v156, xI 0 100 xz), (v157, xI 0 100 xz), (v158, xI 0 100 xz), (v159, xI 0 100 xz), (v160, xI 2 4000 xz), (v161, xI 0 100 xz), (v162, xI 2 1200 xz), (v163, xO 9 [.ref v164, .ref v165, .ref v166, .ref v167, .ref v168, .ref v169, .ref v170, .int 0, .int 0]), (v164, xI 0 100 xz), (v165, xI 0 100 xz), (v166, xI 0 100 xz), (v167, xI 0 100 xz)] ++ [(v168, xI 2 4000 xz), (v169, xI 0 100 xz), (v170, xI 2 1200 xz), (v171, xO 8 [.ref v172, .int 0]), (v172, xI 2 24 xz), (v173, xO 8 [.ref v174, .int 0]), (v174, xI 2 12 xz)])))) ++ dblk dl 40))) : ∃ L, Gh L S0c h2 ∧ L 468 = b ∧ L 700 = 0 ∧ L 701 = 0 := by
  have hnd : (([b, v1, v2, v3, v4, v5, v6, v7, v8, v9, v10, v11, v12, v13, v14, v15, v16, v17, v18, v19, v20, v21, v22, v23, v24, v25, v26, v27, v28, v29, v30, v31, v32, v33, v34, v35, v36, v37, v38, v39] ++ ([v40, v41, v42, v43, v44, v45, v46, v47, v48, v49, v50, v51, v52, v53, v54, v55, v56, v57, v58, v59, v60, v61, v62, v63, v64, v65, v66, v67, v68, v69, v70, v71, v72, v73, v74, v75, v76, v77, v78, v79] ++ ([v80, v81, v82, v83, v84, v85, v86, v87, v88, v89, v90, v91, v92, v93, v94, v95, v96, v97, v98, v99, v100, v101, v102, v103, v104, v105, v106, v107, v108, v109, v110, v111, v112, v113, v114, v115, v116, v117, v118, v119] ++ ([v120, v121, v122, v123, v124, v125, v126, v127, v128, v129, v130, v131, v132, v133, v134, v135, v136, v137, v138, v139, v140, v141, v142, v143, v144, v145, v146, v147, v148, v149, v150, v151, v152, v153, v154, v155, v156, v157, v158, v159] ++ [v160, v161, v162, v163, v164, v165, v166, v167, v168, v169, v170, v171, v172, v173, v174])))) ++ (List.range 320).map dl).Nodup := by
    have q := hC.1
    simp only [List.map_append, List.map_cons, List.map_nil, dblk_f] at q
    exact q
  obtain ⟨M, hM⟩ := nd_le (([b, v1, v2, v3, v4, v5, v6, v7, v8, v9, v10, v11, v12, v13, v14, v15, v16, v17, v18, v19, v20, v21, v22, v23, v24, v25, v26, v27, v28, v29, v30, v31, v32, v33, v34, v35, v36, v37, v38, v39] ++ ([v40, v41, v42, v43, v44, v45, v46, v47, v48, v49, v50, v51, v52, v53, v54, v55, v56, v57, v58, v59, v60, v61, v62, v63, v64, v65, v66, v67, v68, v69, v70, v71, v72, v73, v74, v75, v76, v77, v78, v79] ++ ([v80, v81, v82, v83, v84, v85, v86, v87, v88, v89, v90, v91, v92, v93, v94, v95, v96, v97, v98, v99, v100, v101, v102, v103, v104, v105, v106, v107, v108, v109, v110, v111, v112, v113, v114, v115, v116, v117, v118, v119] ++ ([v120, v121, v122, v123, v124, v125, v126, v127, v128, v129, v130, v131, v132, v133, v134, v135, v136, v137, v138, v139, v140, v141, v142, v143, v144, v145, v146, v147, v148, v149, v150, v151, v152, v153, v154, v155, v156, v157, v158, v159] ++ [v160, v161, v162, v163, v164, v165, v166, v167, v168, v169, v170, v171, v172, v173, v174])))) ++ (List.range 320).map dl)
  refine ⟨LLc dl ([b, v1, v2, v3, v4, v5, v6, v7, v8, v9, v10, v11, v12, v13, v14, v15, v16, v17, v18, v19, v20, v21, v22, v23, v24, v25, v26, v27, v28, v29, v30, v31, v32, v33, v34, v35, v36, v37, v38, v39] ++ ([v40, v41, v42, v43, v44, v45, v46, v47, v48, v49, v50, v51, v52, v53, v54, v55, v56, v57, v58, v59, v60, v61, v62, v63, v64, v65, v66, v67, v68, v69, v70, v71, v72, v73, v74, v75, v76, v77, v78, v79] ++ ([v80, v81, v82, v83, v84, v85, v86, v87, v88, v89, v90, v91, v92, v93, v94, v95, v96, v97, v98, v99, v100, v101, v102, v103, v104, v105, v106, v107, v108, v109, v110, v111, v112, v113, v114, v115, v116, v117, v118, v119] ++ ([v120, v121, v122, v123, v124, v125, v126, v127, v128, v129, v130, v131, v132, v133, v134, v135, v136, v137, v138, v139, v140, v141, v142, v143, v144, v145, v146, v147, v148, v149, v150, v151, v152, v153, v154, v155, v156, v157, v158, v159] ++ [v160, v161, v162, v163, v164, v165, v166, v167, v168, v169, v170, v171, v172, v173, v174])))) M, ⟨LLc_inj rfl hnd hM, ?_⟩, rfl, rfl, rfl⟩
  have hx : ∀ c, c < 700 → (∃ e, gsh (LLc dl ([b, v1, v2, v3, v4, v5, v6, v7, v8, v9, v10, v11, v12, v13, v14, v15, v16, v17, v18, v19, v20, v21, v22, v23, v24, v25, v26, v27, v28, v29, v30, v31, v32, v33, v34, v35, v36, v37, v38, v39] ++ ([v40, v41, v42, v43, v44, v45, v46, v47, v48, v49, v50, v51, v52, v53, v54, v55, v56, v57, v58, v59, v60, v61, v62, v63, v64, v65, v66, v67, v68, v69, v70, v71, v72, v73, v74, v75, v76, v77, v78, v79] ++ ([v80, v81, v82, v83, v84, v85, v86, v87, v88, v89, v90, v91, v92, v93, v94, v95, v96, v97, v98, v99, v100, v101, v102, v103, v104, v105, v106, v107, v108, v109, v110, v111, v112, v113, v114, v115, v116, v117, v118, v119] ++ ([v120, v121, v122, v123, v124, v125, v126, v127, v128, v129, v130, v131, v132, v133, v134, v135, v136, v137, v138, v139, v140, v141, v142, v143, v144, v145, v146, v147, v148, v149, v150, v151, v152, v153, v154, v155, v156, v157, v158, v159] ++ [v160, v161, v162, v163, v164, v165, v166, v167, v168, v169, v170, v171, v172, v173, v174])))) M) c (S0c.1 c) (S0c.2.1 c) (S0c.2.2 c) = some e ∧ h2 (LLc dl ([b, v1, v2, v3, v4, v5, v6, v7, v8, v9, v10, v11, v12, v13, v14, v15, v16, v17, v18, v19, v20, v21, v22, v23, v24, v25, v26, v27, v28, v29, v30, v31, v32, v33, v34, v35, v36, v37, v38, v39] ++ ([v40, v41, v42, v43, v44, v45, v46, v47, v48, v49, v50, v51, v52, v53, v54, v55, v56, v57, v58, v59, v60, v61, v62, v63, v64, v65, v66, v67, v68, v69, v70, v71, v72, v73, v74, v75, v76, v77, v78, v79] ++ ([v80, v81, v82, v83, v84, v85, v86, v87, v88, v89, v90, v91, v92, v93, v94, v95, v96, v97, v98, v99, v100, v101, v102, v103, v104, v105, v106, v107, v108, v109, v110, v111, v112, v113, v114, v115, v116, v117, v118, v119] ++ ([v120, v121, v122, v123, v124, v125, v126, v127, v128, v129, v130, v131, v132, v133, v134, v135, v136, v137, v138, v139, v140, v141, v142, v143, v144, v145, v146, v147, v148, v149, v150, v151, v152, v153, v154, v155, v156, v157, v158, v159] ++ [v160, v161, v162, v163, v164, v165, v166, v167, v168, v169, v170, v171, v172, v173, v174])))) M c) = some e) ∨ gsh (LLc dl ([b, v1, v2, v3, v4, v5, v6, v7, v8, v9, v10, v11, v12, v13, v14, v15, v16, v17, v18, v19, v20, v21, v22, v23, v24, v25, v26, v27, v28, v29, v30, v31, v32, v33, v34, v35, v36, v37, v38, v39] ++ ([v40, v41, v42, v43, v44, v45, v46, v47, v48, v49, v50, v51, v52, v53, v54, v55, v56, v57, v58, v59, v60, v61, v62, v63, v64, v65, v66, v67, v68, v69, v70, v71, v72, v73, v74, v75, v76, v77, v78, v79] ++ ([v80, v81, v82, v83, v84, v85, v86, v87, v88, v89, v90, v91, v92, v93, v94, v95, v96, v97, v98, v99, v100, v101, v102, v103, v104, v105, v106, v107, v108, v109, v110, v111, v112, v113, v114, v115, v116, v117, v118, v119] ++ ([v120, v121, v122, v123, v124, v125, v126, v127, v128, v129, v130, v131, v132, v133, v134, v135, v136, v137, v138, v139, v140, v141, v142, v143, v144, v145, v146, v147, v148, v149, v150, v151, v152, v153, v154, v155, v156, v157, v158, v159] ++ [v160, v161, v162, v163, v164, v165, v166, v167, v168, v169, v170, v171, v172, v173, v174])))) M) c (S0c.1 c) (S0c.2.1 c) (S0c.2.2 c) = none := by
    have hdoc : ∀ c, c < 320 → (∃ e, gsh (LLc dl ([b, v1, v2, v3, v4, v5, v6, v7, v8, v9, v10, v11, v12, v13, v14, v15, v16, v17, v18, v19, v20, v21, v22, v23, v24, v25, v26, v27, v28, v29, v30, v31, v32, v33, v34, v35, v36, v37, v38, v39] ++ ([v40, v41, v42, v43, v44, v45, v46, v47, v48, v49, v50, v51, v52, v53, v54, v55, v56, v57, v58, v59, v60, v61, v62, v63, v64, v65, v66, v67, v68, v69, v70, v71, v72, v73, v74, v75, v76, v77, v78, v79] ++ ([v80, v81, v82, v83, v84, v85, v86, v87, v88, v89, v90, v91, v92, v93, v94, v95, v96, v97, v98, v99, v100, v101, v102, v103, v104, v105, v106, v107, v108, v109, v110, v111, v112, v113, v114, v115, v116, v117, v118, v119] ++ ([v120, v121, v122, v123, v124, v125, v126, v127, v128, v129, v130, v131, v132, v133, v134, v135, v136, v137, v138, v139, v140, v141, v142, v143, v144, v145, v146, v147, v148, v149, v150, v151, v152, v153, v154, v155, v156, v157, v158, v159] ++ [v160, v161, v162, v163, v164, v165, v166, v167, v168, v169, v170, v171, v172, v173, v174])))) M) c (S0c.1 c) (S0c.2.1 c) (S0c.2.2 c) = some e ∧ h2 (LLc dl ([b, v1, v2, v3, v4, v5, v6, v7, v8, v9, v10, v11, v12, v13, v14, v15, v16, v17, v18, v19, v20, v21, v22, v23, v24, v25, v26, v27, v28, v29, v30, v31, v32, v33, v34, v35, v36, v37, v38, v39] ++ ([v40, v41, v42, v43, v44, v45, v46, v47, v48, v49, v50, v51, v52, v53, v54, v55, v56, v57, v58, v59, v60, v61, v62, v63, v64, v65, v66, v67, v68, v69, v70, v71, v72, v73, v74, v75, v76, v77, v78, v79] ++ ([v80, v81, v82, v83, v84, v85, v86, v87, v88, v89, v90, v91, v92, v93, v94, v95, v96, v97, v98, v99, v100, v101, v102, v103, v104, v105, v106, v107, v108, v109, v110, v111, v112, v113, v114, v115, v116, v117, v118, v119] ++ ([v120, v121, v122, v123, v124, v125, v126, v127, v128, v129, v130, v131, v132, v133, v134, v135, v136, v137, v138, v139, v140, v141, v142, v143, v144, v145, v146, v147, v148, v149, v150, v151, v152, v153, v154, v155, v156, v157, v158, v159] ++ [v160, v161, v162, v163, v164, v165, v166, v167, v168, v169, v170, v171, v172, v173, v174])))) M c) = some e) := by
      intro c hc
      have hm : ∀ e ∈ DB dl (c / 8), h2 e.1 = some e.2 := fun e he => hC.2.2.2.1 e (List.mem_append_right _ (List.mem_cons_of_mem _ (List.mem_append_right _ (dblk_m (by omega) he))))
      rcases (show c % 8 = 0 ∨ c % 8 = 1 ∨ c % 8 = 2 ∨ c % 8 = 3 ∨ c % 8 = 4 ∨ c % 8 = 5 ∨ c % 8 = 6 ∨ c % 8 = 7 by omega) with e | e | e | e | e | e | e | e
      · refine ⟨_, gsT ⟨e, by omega⟩, ?_⟩
        rw [LLc_d hc, LLc_d (c := c + 1) (by omega), LLc_d (c := c + 2) (by omega), LLc_d (c := c + 3) (by omega), LLc_d (c := c + 4) (by omega), LLc_d (c := c + 5) (by omega), LLc_d (c := c + 6) (by omega), LLc_d (c := c + 7) (by omega)]
        have := hm _ (List.mem_of_getElem? (i := 0) rfl)
        rw [show 8 * (c / 8) = c by omega] at this
        exact this
      · have hc8 : c = 8 * (c / 8) + 1 := by omega
        refine ⟨xI 0 100 xz, ?_, ?_⟩
        · rw [hc8]; exact gsT1 ⟨by omega, by omega⟩
        · rw [LLc_d hc]
          have := hm _ (List.mem_of_getElem? (i := 1) rfl)
          rw [← hc8] at this
          exact this
      · have hc8 : c = 8 * (c / 8) + 2 := by omega
        refine ⟨xI 0 100 xz, ?_, ?_⟩
        · rw [hc8]; exact gsT2 ⟨by omega, by omega⟩
        · rw [LLc_d hc]
          have := hm _ (List.mem_of_getElem? (i := 2) rfl)
          rw [← hc8] at this
          exact this
      · have hc8 : c = 8 * (c / 8) + 3 := by omega
        refine ⟨xI 0 100 xz, ?_, ?_⟩
        · rw [hc8]; exact gsT3 ⟨by omega, by omega⟩
        · rw [LLc_d hc]
          have := hm _ (List.mem_of_getElem? (i := 3) rfl)
          rw [← hc8] at this
          exact this
      · have hc8 : c = 8 * (c / 8) + 4 := by omega
        refine ⟨xI 0 100 xz, ?_, ?_⟩
        · rw [hc8]; exact gsT4 ⟨by omega, by omega⟩
        · rw [LLc_d hc]
          have := hm _ (List.mem_of_getElem? (i := 4) rfl)
          rw [← hc8] at this
          exact this
      · have hc8 : c = 8 * (c / 8) + 5 := by omega
        refine ⟨xI 2 4000 xz, ?_, ?_⟩
        · rw [hc8]; exact gsT5 ⟨by omega, by omega⟩
        · rw [LLc_d hc]
          have := hm _ (List.mem_of_getElem? (i := 5) rfl)
          rw [← hc8] at this
          exact this
      · have hc8 : c = 8 * (c / 8) + 6 := by omega
        refine ⟨xI 0 100 xz, ?_, ?_⟩
        · rw [hc8]; exact gsT6 ⟨by omega, by omega⟩
        · rw [LLc_d hc]
          have := hm _ (List.mem_of_getElem? (i := 6) rfl)
          rw [← hc8] at this
          exact this
      · have hc8 : c = 8 * (c / 8) + 7 := by omega
        refine ⟨xI 2 1200 xz, ?_, ?_⟩
        · rw [hc8]; exact gsT7 ⟨by omega, by omega⟩
        · rw [LLc_d hc]
          have := hm _ (List.mem_of_getElem? (i := 7) rfl)
          rw [← hc8] at this
          exact this
    have hlow : ∀ c ∈ ([320, 321, 322, 323, 324, 325, 326, 327, 328, 329, 330, 331, 332, 333, 334, 335, 336, 337, 338, 339, 340, 341, 342, 343, 344, 345, 346, 347, 348, 349, 350, 351, 352, 353, 354, 355, 356, 357, 358, 359] ++ ([360, 361, 362, 363, 364, 365, 366, 367, 368, 369, 370, 371, 372, 373, 374, 375, 376, 377, 378, 379, 380, 381, 382, 383, 384, 385, 386, 387, 388, 389, 390, 391, 392, 393, 394, 395, 396, 397, 398, 399] ++ ([400, 401, 402, 403, 404, 405, 406, 407, 408, 409, 410, 411, 412, 413, 414, 415, 416, 417, 418, 419, 420, 421, 422, 423, 424, 425, 426, 427, 428, 429, 430, 431, 432, 433, 434, 435, 436, 437, 438, 439] ++ ([440, 441, 442, 443, 444, 445, 446, 447, 448, 449, 450, 451, 452, 453, 454, 455, 456, 457, 458, 459, 460, 461, 462, 463, 464, 465, 466, 467, 468, 469, 470, 471, 472, 473, 474, 475, 476, 477, 478, 479] ++ [480, 481, 482, 483, 484, 485, 486, 487, 488, 489, 490, 491, 492, 493, 494])))), (∃ e, gsh (LLc dl ([b, v1, v2, v3, v4, v5, v6, v7, v8, v9, v10, v11, v12, v13, v14, v15, v16, v17, v18, v19, v20, v21, v22, v23, v24, v25, v26, v27, v28, v29, v30, v31, v32, v33, v34, v35, v36, v37, v38, v39] ++ ([v40, v41, v42, v43, v44, v45, v46, v47, v48, v49, v50, v51, v52, v53, v54, v55, v56, v57, v58, v59, v60, v61, v62, v63, v64, v65, v66, v67, v68, v69, v70, v71, v72, v73, v74, v75, v76, v77, v78, v79] ++ ([v80, v81, v82, v83, v84, v85, v86, v87, v88, v89, v90, v91, v92, v93, v94, v95, v96, v97, v98, v99, v100, v101, v102, v103, v104, v105, v106, v107, v108, v109, v110, v111, v112, v113, v114, v115, v116, v117, v118, v119] ++ ([v120, v121, v122, v123, v124, v125, v126, v127, v128, v129, v130, v131, v132, v133, v134, v135, v136, v137, v138, v139, v140, v141, v142, v143, v144, v145, v146, v147, v148, v149, v150, v151, v152, v153, v154, v155, v156, v157, v158, v159] ++ [v160, v161, v162, v163, v164, v165, v166, v167, v168, v169, v170, v171, v172, v173, v174])))) M) c (S0c.1 c) (S0c.2.1 c) (S0c.2.2 c) = some e ∧ h2 (LLc dl ([b, v1, v2, v3, v4, v5, v6, v7, v8, v9, v10, v11, v12, v13, v14, v15, v16, v17, v18, v19, v20, v21, v22, v23, v24, v25, v26, v27, v28, v29, v30, v31, v32, v33, v34, v35, v36, v37, v38, v39] ++ ([v40, v41, v42, v43, v44, v45, v46, v47, v48, v49, v50, v51, v52, v53, v54, v55, v56, v57, v58, v59, v60, v61, v62, v63, v64, v65, v66, v67, v68, v69, v70, v71, v72, v73, v74, v75, v76, v77, v78, v79] ++ ([v80, v81, v82, v83, v84, v85, v86, v87, v88, v89, v90, v91, v92, v93, v94, v95, v96, v97, v98, v99, v100, v101, v102, v103, v104, v105, v106, v107, v108, v109, v110, v111, v112, v113, v114, v115, v116, v117, v118, v119] ++ ([v120, v121, v122, v123, v124, v125, v126, v127, v128, v129, v130, v131, v132, v133, v134, v135, v136, v137, v138, v139, v140, v141, v142, v143, v144, v145, v146, v147, v148, v149, v150, v151, v152, v153, v154, v155, v156, v157, v158, v159] ++ [v160, v161, v162, v163, v164, v165, v166, v167, v168, v169, v170, v171, v172, v173, v174])))) M c) = some e) := by
      intro c hc
      simp only [List.mem_append, List.mem_cons, List.not_mem_nil, or_false, or_assoc] at hc
      rcases hc with rfl | rfl | rfl | rfl | rfl | rfl | rfl | rfl | rfl | rfl | rfl | rfl | rfl | rfl | rfl | rfl | rfl | rfl | rfl | rfl | rfl | rfl | rfl | rfl | rfl | rfl | rfl | rfl | rfl | rfl | rfl | rfl | rfl | rfl | rfl | rfl | rfl | rfl | rfl | rfl | rfl | rfl | rfl | rfl | rfl | rfl | rfl | rfl | rfl | rfl | rfl | rfl | rfl | rfl | rfl | rfl | rfl | rfl | rfl | rfl | rfl | rfl | rfl | rfl | rfl | rfl | rfl | rfl | rfl | rfl | rfl | rfl | rfl | rfl | rfl | rfl | rfl | rfl | rfl | rfl | rfl | rfl | rfl | rfl | rfl | rfl | rfl | rfl | rfl | rfl | rfl | rfl | rfl | rfl | rfl | rfl | rfl | rfl | rfl | rfl | rfl | rfl | rfl | rfl | rfl | rfl | rfl | rfl | rfl | rfl | rfl | rfl | rfl | rfl | rfl | rfl | rfl | rfl | rfl | rfl | rfl | rfl | rfl | rfl | rfl | rfl | rfl | rfl | rfl | rfl | rfl | rfl | rfl | rfl | rfl | rfl | rfl | rfl | rfl | rfl | rfl | rfl | rfl | rfl | rfl | rfl | rfl | rfl | rfl | rfl | rfl | rfl | rfl | rfl | rfl | rfl | rfl | rfl | rfl | rfl | rfl | rfl | rfl | rfl | rfl | rfl | rfl | rfl | rfl | rfl | rfl | rfl | rfl | rfl | rfl
      · exact ⟨_, rfl, hC.2.2.2.1 _ (List.mem_append_right _ (List.mem_cons_of_mem _ (List.mem_append_left _ (List.mem_of_getElem? (i := 0) rfl))))⟩
      · exact ⟨_, rfl, hC.2.2.2.1 _ (List.mem_append_right _ (List.mem_cons_of_mem _ (List.mem_append_left _ (List.mem_of_getElem? (i := 1) rfl))))⟩
      · exact ⟨_, rfl, hC.2.2.2.1 _ (List.mem_append_right _ (List.mem_cons_of_mem _ (List.mem_append_left _ (List.mem_of_getElem? (i := 2) rfl))))⟩
      · exact ⟨_, rfl, hC.2.2.2.1 _ (List.mem_append_right _ (List.mem_cons_of_mem _ (List.mem_append_left _ (List.mem_of_getElem? (i := 3) rfl))))⟩
      · exact ⟨_, rfl, hC.2.2.2.1 _ (List.mem_append_right _ (List.mem_cons_of_mem _ (List.mem_append_left _ (List.mem_of_getElem? (i := 4) rfl))))⟩
      · exact ⟨_, rfl, hC.2.2.2.1 _ (List.mem_append_right _ (List.mem_cons_of_mem _ (List.mem_append_left _ (List.mem_of_getElem? (i := 5) rfl))))⟩
      · exact ⟨_, rfl, hC.2.2.2.1 _ (List.mem_append_right _ (List.mem_cons_of_mem _ (List.mem_append_left _ (List.mem_of_getElem? (i := 6) rfl))))⟩
      · exact ⟨_, rfl, hC.2.2.2.1 _ (List.mem_append_right _ (List.mem_cons_of_mem _ (List.mem_append_left _ (List.mem_of_getElem? (i := 7) rfl))))⟩
      · exact ⟨_, rfl, hC.2.2.2.1 _ (List.mem_append_right _ (List.mem_cons_of_mem _ (List.mem_append_left _ (List.mem_of_getElem? (i := 8) rfl))))⟩
      · exact ⟨_, rfl, hC.2.2.2.1 _ (List.mem_append_right _ (List.mem_cons_of_mem _ (List.mem_append_left _ (List.mem_of_getElem? (i := 9) rfl))))⟩
      · exact ⟨_, rfl, hC.2.2.2.1 _ (List.mem_append_right _ (List.mem_cons_of_mem _ (List.mem_append_left _ (List.mem_of_getElem? (i := 10) rfl))))⟩
      · exact ⟨_, rfl, hC.2.2.2.1 _ (List.mem_append_right _ (List.mem_cons_of_mem _ (List.mem_append_left _ (List.mem_of_getElem? (i := 11) rfl))))⟩
      · exact ⟨_, rfl, hC.2.2.2.1 _ (List.mem_append_right _ (List.mem_cons_of_mem _ (List.mem_append_left _ (List.mem_of_getElem? (i := 12) rfl))))⟩
      · exact ⟨_, rfl, hC.2.2.2.1 _ (List.mem_append_right _ (List.mem_cons_of_mem _ (List.mem_append_left _ (List.mem_of_getElem? (i := 13) rfl))))⟩
      · exact ⟨_, rfl, hC.2.2.2.1 _ (List.mem_append_right _ (List.mem_cons_of_mem _ (List.mem_append_left _ (List.mem_of_getElem? (i := 14) rfl))))⟩
      · exact ⟨_, rfl, hC.2.2.2.1 _ (List.mem_append_right _ (List.mem_cons_of_mem _ (List.mem_append_left _ (List.mem_of_getElem? (i := 15) rfl))))⟩
      · exact ⟨_, rfl, hC.2.2.2.1 _ (List.mem_append_right _ (List.mem_cons_of_mem _ (List.mem_append_left _ (List.mem_of_getElem? (i := 17) rfl))))⟩
      · exact ⟨_, rfl, hC.2.2.2.1 _ (List.mem_append_right _ (List.mem_cons_of_mem _ (List.mem_append_left _ (List.mem_of_getElem? (i := 18) rfl))))⟩
      · exact ⟨_, rfl, hC.2.2.2.1 _ (List.mem_append_right _ (List.mem_cons_of_mem _ (List.mem_append_left _ (List.mem_of_getElem? (i := 19) rfl))))⟩
      · exact ⟨_, rfl, hC.2.2.2.1 _ (List.mem_append_right _ (List.mem_cons_of_mem _ (List.mem_append_left _ (List.mem_of_getElem? (i := 20) rfl))))⟩
      · exact ⟨_, rfl, hC.2.2.2.1 _ (List.mem_append_right _ (List.mem_cons_of_mem _ (List.mem_append_left _ (List.mem_of_getElem? (i := 21) rfl))))⟩
      · exact ⟨_, rfl, hC.2.2.2.1 _ (List.mem_append_right _ (List.mem_cons_of_mem _ (List.mem_append_left _ (List.mem_of_getElem? (i := 22) rfl))))⟩
      · exact ⟨_, rfl, hC.2.2.2.1 _ (List.mem_append_right _ (List.mem_cons_of_mem _ (List.mem_append_left _ (List.mem_of_getElem? (i := 23) rfl))))⟩
      · exact ⟨_, rfl, hC.2.2.2.1 _ (List.mem_append_right _ (List.mem_cons_of_mem _ (List.mem_append_left _ (List.mem_of_getElem? (i := 24) rfl))))⟩
      · exact ⟨_, rfl, hC.2.2.2.1 _ (List.mem_append_right _ (List.mem_cons_of_mem _ (List.mem_append_left _ (List.mem_of_getElem? (i := 25) rfl))))⟩
      · exact ⟨_, rfl, hC.2.2.2.1 _ (List.mem_append_right _ (List.mem_cons_of_mem _ (List.mem_append_left _ (List.mem_of_getElem? (i := 26) rfl))))⟩
      · exact ⟨_, rfl, hC.2.2.2.1 _ (List.mem_append_right _ (List.mem_cons_of_mem _ (List.mem_append_left _ (List.mem_of_getElem? (i := 27) rfl))))⟩
      · exact ⟨_, rfl, hC.2.2.2.1 _ (List.mem_append_right _ (List.mem_cons_of_mem _ (List.mem_append_left _ (List.mem_of_getElem? (i := 28) rfl))))⟩
      · exact ⟨_, rfl, hC.2.2.2.1 _ (List.mem_append_right _ (List.mem_cons_of_mem _ (List.mem_append_left _ (List.mem_of_getElem? (i := 29) rfl))))⟩
      · exact ⟨_, rfl, hC.2.2.2.1 _ (List.mem_append_right _ (List.mem_cons_of_mem _ (List.mem_append_left _ (List.mem_of_getElem? (i := 30) rfl))))⟩
      · exact ⟨_, rfl, hC.2.2.2.1 _ (List.mem_append_right _ (List.mem_cons_of_mem _ (List.mem_append_left _ (List.mem_of_getElem? (i := 31) rfl))))⟩
      · exact ⟨_, rfl, hC.2.2.2.1 _ (List.mem_append_right _ (List.mem_cons_of_mem _ (List.mem_append_left _ (List.mem_of_getElem? (i := 32) rfl))))⟩
      · exact ⟨_, rfl, hC.2.2.2.1 _ (List.mem_append_right _ (List.mem_cons_of_mem _ (List.mem_append_left _ (List.mem_of_getElem? (i := 62) rfl))))⟩
      · exact ⟨_, rfl, hC.2.2.2.1 _ (List.mem_append_right _ (List.mem_cons_of_mem _ (List.mem_append_left _ (List.mem_of_getElem? (i := 63) rfl))))⟩
      · exact ⟨_, rfl, hC.2.2.2.1 _ (List.mem_append_right _ (List.mem_cons_of_mem _ (List.mem_append_left _ (List.mem_of_getElem? (i := 64) rfl))))⟩
      · exact ⟨_, rfl, hC.2.2.2.1 _ (List.mem_append_right _ (List.mem_cons_of_mem _ (List.mem_append_left _ (List.mem_of_getElem? (i := 65) rfl))))⟩
      · exact ⟨_, rfl, hC.2.2.2.1 _ (List.mem_append_right _ (List.mem_cons_of_mem _ (List.mem_append_left _ (List.mem_of_getElem? (i := 66) rfl))))⟩
      · exact ⟨_, rfl, hC.2.2.2.1 _ (List.mem_append_right _ (List.mem_cons_of_mem _ (List.mem_append_left _ (List.mem_of_getElem? (i := 67) rfl))))⟩
      · exact ⟨_, rfl, hC.2.2.2.1 _ (List.mem_append_right _ (List.mem_cons_of_mem _ (List.mem_append_left _ (List.mem_of_getElem? (i := 68) rfl))))⟩
      · exact ⟨_, rfl, hC.2.2.2.1 _ (List.mem_append_right _ (List.mem_cons_of_mem _ (List.mem_append_left _ (List.mem_of_getElem? (i := 69) rfl))))⟩
      · exact ⟨_, rfl, hC.2.2.2.1 _ (List.mem_append_right _ (List.mem_cons_of_mem _ (List.mem_append_left _ (List.mem_of_getElem? (i := 71) rfl))))⟩
      · exact ⟨_, rfl, hC.2.2.2.1 _ (List.mem_append_right _ (List.mem_cons_of_mem _ (List.mem_append_left _ (List.mem_of_getElem? (i := 72) rfl))))⟩
      · exact ⟨_, rfl, hC.2.2.2.1 _ (List.mem_append_right _ (List.mem_cons_of_mem _ (List.mem_append_left _ (List.mem_of_getElem? (i := 73) rfl))))⟩
      · exact ⟨_, rfl, hC.2.2.2.1 _ (List.mem_append_right _ (List.mem_cons_of_mem _ (List.mem_append_left _ (List.mem_of_getElem? (i := 74) rfl))))⟩
      · exact ⟨_, rfl, hC.2.2.2.1 _ (List.mem_append_right _ (List.mem_cons_of_mem _ (List.mem_append_left _ (List.mem_of_getElem? (i := 75) rfl))))⟩
      · exact ⟨_, rfl, hC.2.2.2.1 _ (List.mem_append_right _ (List.mem_cons_of_mem _ (List.mem_append_left _ (List.mem_of_getElem? (i := 76) rfl))))⟩
      · exact ⟨_, rfl, hC.2.2.2.1 _ (List.mem_append_right _ (List.mem_cons_of_mem _ (List.mem_append_left _ (List.mem_of_getElem? (i := 77) rfl))))⟩
      · exact ⟨_, rfl, hC.2.2.2.1 _ (List.mem_append_right _ (List.mem_cons_of_mem _ (List.mem_append_left _ (List.mem_of_getElem? (i := 78) rfl))))⟩
      · exact ⟨_, rfl, hC.2.2.2.1 _ (List.mem_append_right _ (List.mem_cons_of_mem _ (List.mem_append_left _ (List.mem_of_getElem? (i := 79) rfl))))⟩
      · exact ⟨_, rfl, hC.2.2.2.1 _ (List.mem_append_right _ (List.mem_cons_of_mem _ (List.mem_append_left _ (List.mem_of_getElem? (i := 80) rfl))))⟩
      · exact ⟨_, rfl, hC.2.2.2.1 _ (List.mem_append_right _ (List.mem_cons_of_mem _ (List.mem_append_left _ (List.mem_of_getElem? (i := 81) rfl))))⟩
      · exact ⟨_, rfl, hC.2.2.2.1 _ (List.mem_append_right _ (List.mem_cons_of_mem _ (List.mem_append_left _ (List.mem_of_getElem? (i := 82) rfl))))⟩
      · exact ⟨_, rfl, hC.2.2.2.1 _ (List.mem_append_right _ (List.mem_cons_of_mem _ (List.mem_append_left _ (List.mem_of_getElem? (i := 83) rfl))))⟩
      · exact ⟨_, rfl, hC.2.2.2.1 _ (List.mem_append_right _ (List.mem_cons_of_mem _ (List.mem_append_left _ (List.mem_of_getElem? (i := 84) rfl))))⟩
      · exact ⟨_, rfl, hC.2.2.2.1 _ (List.mem_append_right _ (List.mem_cons_of_mem _ (List.mem_append_left _ (List.mem_of_getElem? (i := 85) rfl))))⟩
      · exact ⟨_, rfl, hC.2.2.2.1 _ (List.mem_append_right _ (List.mem_cons_of_mem _ (List.mem_append_left _ (List.mem_of_getElem? (i := 86) rfl))))⟩
      · exact ⟨_, rfl, hC.2.2.2.1 _ (List.mem_append_right _ (List.mem_cons_of_mem _ (List.mem_append_left _ (List.mem_of_getElem? (i := 87) rfl))))⟩
      · exact ⟨_, rfl, hC.2.2.2.1 _ (List.mem_append_right _ (List.mem_cons_of_mem _ (List.mem_append_left _ (List.mem_of_getElem? (i := 88) rfl))))⟩
      · exact ⟨_, rfl, hC.2.2.2.1 _ (List.mem_append_right _ (List.mem_cons_of_mem _ (List.mem_append_left _ (List.mem_of_getElem? (i := 89) rfl))))⟩
      · exact ⟨_, rfl, hC.2.2.2.1 _ (List.mem_append_right _ (List.mem_cons_of_mem _ (List.mem_append_left _ (List.mem_of_getElem? (i := 90) rfl))))⟩
      · exact ⟨_, rfl, hC.2.2.2.1 _ (List.mem_append_right _ (List.mem_cons_of_mem _ (List.mem_append_left _ (List.mem_of_getElem? (i := 91) rfl))))⟩
      · exact ⟨_, rfl, hC.2.2.2.1 _ (List.mem_append_right _ (List.mem_cons_of_mem _ (List.mem_append_left _ (List.mem_of_getElem? (i := 92) rfl))))⟩
      · exact ⟨_, rfl, hC.2.2.2.1 _ (List.mem_append_right _ (List.mem_cons_of_mem _ (List.mem_append_left _ (List.mem_of_getElem? (i := 93) rfl))))⟩
      · exact ⟨_, rfl, hC.2.2.2.1 _ (List.mem_append_right _ (List.mem_cons_of_mem _ (List.mem_append_left _ (List.mem_of_getElem? (i := 94) rfl))))⟩
      · exact ⟨_, rfl, hC.2.2.2.1 _ (List.mem_append_right _ (List.mem_cons_of_mem _ (List.mem_append_left _ (List.mem_of_getElem? (i := 95) rfl))))⟩
      · exact ⟨_, rfl, hC.2.2.2.1 _ (List.mem_append_right _ (List.mem_cons_of_mem _ (List.mem_append_left _ (List.mem_of_getElem? (i := 96) rfl))))⟩
      · exact ⟨_, rfl, hC.2.2.2.1 _ (List.mem_append_right _ (List.mem_cons_of_mem _ (List.mem_append_left _ (List.mem_of_getElem? (i := 97) rfl))))⟩
      · exact ⟨_, rfl, hC.2.2.2.1 _ (List.mem_append_right _ (List.mem_cons_of_mem _ (List.mem_append_left _ (List.mem_of_getElem? (i := 98) rfl))))⟩
      · exact ⟨_, rfl, hC.2.2.2.1 _ (List.mem_append_right _ (List.mem_cons_of_mem _ (List.mem_append_left _ (List.mem_of_getElem? (i := 99) rfl))))⟩
      · exact ⟨_, rfl, hC.2.2.2.1 _ (List.mem_append_right _ (List.mem_cons_of_mem _ (List.mem_append_left _ (List.mem_of_getElem? (i := 100) rfl))))⟩
      · exact ⟨_, rfl, hC.2.2.2.1 _ (List.mem_append_right _ (List.mem_cons_of_mem _ (List.mem_append_left _ (List.mem_of_getElem? (i := 101) rfl))))⟩
      · exact ⟨_, rfl, hC.2.2.2.1 _ (List.mem_append_right _ (List.mem_cons_of_mem _ (List.mem_append_left _ (List.mem_of_getElem? (i := 102) rfl))))⟩
      · exact ⟨_, rfl, hC.2.2.2.1 _ (List.mem_append_right _ (List.mem_cons_of_mem _ (List.mem_append_left _ (List.mem_of_getElem? (i := 114) rfl))))⟩
      · exact ⟨_, rfl, hC.2.2.2.1 _ (List.mem_append_right _ (List.mem_cons_of_mem _ (List.mem_append_left _ (List.mem_of_getElem? (i := 115) rfl))))⟩
      · exact ⟨_, rfl, hC.2.2.2.1 _ (List.mem_append_right _ (List.mem_cons_of_mem _ (List.mem_append_left _ (List.mem_of_getElem? (i := 116) rfl))))⟩
      · exact ⟨_, rfl, hC.2.2.2.1 _ (List.mem_append_right _ (List.mem_cons_of_mem _ (List.mem_append_left _ (List.mem_of_getElem? (i := 117) rfl))))⟩
      · exact ⟨_, rfl, hC.2.2.2.1 _ (List.mem_append_right _ (List.mem_cons_of_mem _ (List.mem_append_left _ (List.mem_of_getElem? (i := 118) rfl))))⟩
      · exact ⟨_, rfl, hC.2.2.2.1 _ (List.mem_append_right _ (List.mem_cons_of_mem _ (List.mem_append_left _ (List.mem_of_getElem? (i := 119) rfl))))⟩
      · exact ⟨_, rfl, hC.2.2.2.1 _ (List.mem_append_right _ (List.mem_cons_of_mem _ (List.mem_append_left _ (List.mem_of_getElem? (i := 120) rfl))))⟩
      · exact ⟨_, rfl, hC.2.2.2.1 _ (List.mem_append_right _ (List.mem_cons_of_mem _ (List.mem_append_left _ (List.mem_of_getElem? (i := 121) rfl))))⟩
      · exact ⟨_, rfl, hC.2.2.2.1 _ (List.mem_append_right _ (List.mem_cons_of_mem _ (List.mem_append_left _ (List.mem_of_getElem? (i := 128) rfl))))⟩
      · exact ⟨_, rfl, hC.2.2.2.1 _ (List.mem_append_right _ (List.mem_cons_of_mem _ (List.mem_append_left _ (List.mem_of_getElem? (i := 129) rfl))))⟩
      · exact ⟨_, rfl, hC.2.2.2.1 _ (List.mem_append_right _ (List.mem_cons_of_mem _ (List.mem_append_left _ (List.mem_of_getElem? (i := 130) rfl))))⟩
      · exact ⟨_, rfl, hC.2.2.2.1 _ (List.mem_append_right _ (List.mem_cons_of_mem _ (List.mem_append_left _ (List.mem_of_getElem? (i := 131) rfl))))⟩
      · exact ⟨_, rfl, hC.2.2.2.1 _ (List.mem_append_right _ (List.mem_cons_of_mem _ (List.mem_append_left _ (List.mem_of_getElem? (i := 132) rfl))))⟩
      · exact ⟨_, rfl, hC.2.2.2.1 _ (List.mem_append_right _ (List.mem_cons_of_mem _ (List.mem_append_left _ (List.mem_of_getElem? (i := 133) rfl))))⟩
      · exact ⟨_, rfl, hC.2.2.2.1 _ (List.mem_append_right _ (List.mem_cons_of_mem _ (List.mem_append_left _ (List.mem_of_getElem? (i := 134) rfl))))⟩
      · exact ⟨_, rfl, hC.2.2.2.1 _ (List.mem_append_right _ (List.mem_cons_of_mem _ (List.mem_append_left _ (List.mem_of_getElem? (i := 135) rfl))))⟩
      · exact ⟨_, rfl, hC.2.2.2.1 _ (List.mem_append_right _ (List.mem_cons_of_mem _ (List.mem_append_left _ (List.mem_of_getElem? (i := 147) rfl))))⟩
      · exact ⟨_, rfl, hC.2.2.2.1 _ (List.mem_append_right _ (List.mem_cons_of_mem _ (List.mem_append_left _ (List.mem_of_getElem? (i := 148) rfl))))⟩
      · exact ⟨_, rfl, hC.2.2.2.1 _ (List.mem_append_right _ (List.mem_cons_of_mem _ (List.mem_append_left _ (List.mem_of_getElem? (i := 149) rfl))))⟩
      · exact ⟨_, rfl, hC.2.2.2.1 _ (List.mem_append_right _ (List.mem_cons_of_mem _ (List.mem_append_left _ (List.mem_of_getElem? (i := 150) rfl))))⟩
      · exact ⟨_, rfl, hC.2.2.2.1 _ (List.mem_append_right _ (List.mem_cons_of_mem _ (List.mem_append_left _ (List.mem_of_getElem? (i := 151) rfl))))⟩
      · exact ⟨_, rfl, hC.2.2.2.1 _ (List.mem_append_right _ (List.mem_cons_of_mem _ (List.mem_append_left _ (List.mem_of_getElem? (i := 152) rfl))))⟩
      · exact ⟨_, rfl, hC.2.2.2.1 _ (List.mem_append_right _ (List.mem_cons_of_mem _ (List.mem_append_left _ (List.mem_of_getElem? (i := 153) rfl))))⟩
      · exact ⟨_, rfl, hC.2.2.2.1 _ (List.mem_append_right _ (List.mem_cons_of_mem _ (List.mem_append_left _ (List.mem_of_getElem? (i := 154) rfl))))⟩
      · exact ⟨_, rfl, hC.2.2.2.1 _ (List.mem_append_right _ (List.mem_cons_of_mem _ (List.mem_append_left _ (List.mem_of_getElem? (i := 155) rfl))))⟩
      · exact ⟨_, rfl, hC.2.2.2.1 _ (List.mem_append_right _ (List.mem_cons_of_mem _ (List.mem_append_left _ (List.mem_of_getElem? (i := 156) rfl))))⟩
      · exact ⟨_, rfl, hC.2.2.2.1 _ (List.mem_append_right _ (List.mem_cons_of_mem _ (List.mem_append_left _ (List.mem_of_getElem? (i := 157) rfl))))⟩
      · exact ⟨_, rfl, hC.2.2.2.1 _ (List.mem_append_right _ (List.mem_cons_of_mem _ (List.mem_append_left _ (List.mem_of_getElem? (i := 158) rfl))))⟩
      · exact ⟨_, rfl, hC.2.2.2.1 _ (List.mem_append_right _ (List.mem_cons_of_mem _ (List.mem_append_left _ (List.mem_of_getElem? (i := 159) rfl))))⟩
      · exact ⟨_, rfl, hC.2.2.2.1 _ (List.mem_append_right _ (List.mem_cons_of_mem _ (List.mem_append_left _ (List.mem_of_getElem? (i := 160) rfl))))⟩
      · exact ⟨_, rfl, hC.2.2.2.1 _ (List.mem_append_right _ (List.mem_cons_of_mem _ (List.mem_append_left _ (List.mem_of_getElem? (i := 161) rfl))))⟩
      · exact ⟨_, rfl, hC.2.2.2.1 _ (List.mem_append_right _ (List.mem_cons_of_mem _ (List.mem_append_left _ (List.mem_of_getElem? (i := 162) rfl))))⟩
      · exact ⟨_, rfl, hC.2.2.2.1 _ (List.mem_append_left _ (List.mem_of_getElem? (i := 0) rfl))⟩
      · exact ⟨_, rfl, hC.2.2.2.1 _ (List.mem_append_left _ (List.mem_of_getElem? (i := 1) rfl))⟩
      · exact ⟨_, rfl, hC.2.2.2.1 _ (List.mem_append_left _ (List.mem_of_getElem? (i := 2) rfl))⟩
      · exact ⟨_, rfl, hC.2.2.2.1 _ (List.mem_append_left _ (List.mem_of_getElem? (i := 3) rfl))⟩
      · exact ⟨_, rfl, hC.2.2.2.1 _ (List.mem_append_left _ (List.mem_of_getElem? (i := 4) rfl))⟩
      · exact ⟨_, rfl, hC.2.2.2.1 _ (List.mem_append_left _ (List.mem_of_getElem? (i := 5) rfl))⟩
      · exact ⟨_, rfl, hC.2.2.2.1 _ (List.mem_append_right _ (List.mem_cons_of_mem _ (List.mem_append_left _ (List.mem_of_getElem? (i := 33) rfl))))⟩
      · exact ⟨_, rfl, hC.2.2.2.1 _ (List.mem_append_right _ (List.mem_cons_of_mem _ (List.mem_append_left _ (List.mem_of_getElem? (i := 34) rfl))))⟩
      · exact ⟨_, rfl, hC.2.2.2.1 _ (List.mem_append_right _ (List.mem_cons_of_mem _ (List.mem_append_left _ (List.mem_of_getElem? (i := 35) rfl))))⟩
      · exact ⟨_, rfl, hC.2.2.2.1 _ (List.mem_append_right _ (List.mem_cons_of_mem _ (List.mem_append_left _ (List.mem_of_getElem? (i := 36) rfl))))⟩
      · exact ⟨_, rfl, hC.2.2.2.1 _ (List.mem_append_right _ (List.mem_cons_of_mem _ (List.mem_append_left _ (List.mem_of_getElem? (i := 37) rfl))))⟩
      · exact ⟨_, rfl, hC.2.2.2.1 _ (List.mem_append_right _ (List.mem_cons_of_mem _ (List.mem_append_left _ (List.mem_of_getElem? (i := 38) rfl))))⟩
      · exact ⟨_, rfl, hC.2.2.2.1 _ (List.mem_append_right _ (List.mem_cons_of_mem _ (List.mem_append_left _ (List.mem_of_getElem? (i := 40) rfl))))⟩
      · exact ⟨_, rfl, hC.2.2.2.1 _ (List.mem_append_right _ (List.mem_cons_of_mem _ (List.mem_append_left _ (List.mem_of_getElem? (i := 41) rfl))))⟩
      · exact ⟨_, rfl, hC.2.2.2.1 _ (List.mem_append_right _ (List.mem_cons_of_mem _ (List.mem_append_left _ (List.mem_of_getElem? (i := 42) rfl))))⟩
      · exact ⟨_, rfl, hC.2.2.2.1 _ (List.mem_append_right _ (List.mem_cons_of_mem _ (List.mem_append_left _ (List.mem_of_getElem? (i := 43) rfl))))⟩
      · exact ⟨_, rfl, hC.2.2.2.1 _ (List.mem_append_right _ (List.mem_cons_of_mem _ (List.mem_append_left _ (List.mem_of_getElem? (i := 46) rfl))))⟩
      · exact ⟨_, rfl, hC.2.2.2.1 _ (List.mem_append_right _ (List.mem_cons_of_mem _ (List.mem_append_left _ (List.mem_of_getElem? (i := 47) rfl))))⟩
      · exact ⟨_, rfl, hC.2.2.2.1 _ (List.mem_append_right _ (List.mem_cons_of_mem _ (List.mem_append_left _ (List.mem_of_getElem? (i := 48) rfl))))⟩
      · exact ⟨_, rfl, hC.2.2.2.1 _ (List.mem_append_right _ (List.mem_cons_of_mem _ (List.mem_append_left _ (List.mem_of_getElem? (i := 49) rfl))))⟩
      · exact ⟨_, rfl, hC.2.2.2.1 _ (List.mem_append_right _ (List.mem_cons_of_mem _ (List.mem_append_left _ (List.mem_of_getElem? (i := 50) rfl))))⟩
      · exact ⟨_, rfl, hC.2.2.2.1 _ (List.mem_append_right _ (List.mem_cons_of_mem _ (List.mem_append_left _ (List.mem_of_getElem? (i := 51) rfl))))⟩
      · exact ⟨_, rfl, hC.2.2.2.1 _ (List.mem_append_right _ (List.mem_cons_of_mem _ (List.mem_append_left _ (List.mem_of_getElem? (i := 56) rfl))))⟩
      · exact ⟨_, rfl, hC.2.2.2.1 _ (List.mem_append_right _ (List.mem_cons_of_mem _ (List.mem_append_left _ (List.mem_of_getElem? (i := 57) rfl))))⟩
      · exact ⟨_, rfl, hC.2.2.2.1 _ (List.mem_append_right _ (List.mem_cons_of_mem _ (List.mem_append_left _ (List.mem_of_getElem? (i := 104) rfl))))⟩
      · exact ⟨_, rfl, hC.2.2.2.1 _ (List.mem_append_right _ (List.mem_cons_of_mem _ (List.mem_append_left _ (List.mem_of_getElem? (i := 105) rfl))))⟩
      · exact ⟨_, rfl, hC.2.2.2.1 _ (List.mem_append_right _ (List.mem_cons_of_mem _ (List.mem_append_left _ (List.mem_of_getElem? (i := 106) rfl))))⟩
      · exact ⟨_, rfl, hC.2.2.2.1 _ (List.mem_append_right _ (List.mem_cons_of_mem _ (List.mem_append_left _ (List.mem_of_getElem? (i := 107) rfl))))⟩
      · exact ⟨_, rfl, hC.2.2.2.1 _ (List.mem_append_right _ (List.mem_cons_of_mem _ (List.mem_append_left _ (List.mem_of_getElem? (i := 109) rfl))))⟩
      · exact ⟨_, rfl, hC.2.2.2.1 _ (List.mem_append_right _ (List.mem_cons_of_mem _ (List.mem_append_left _ (List.mem_of_getElem? (i := 110) rfl))))⟩
      · exact ⟨_, rfl, hC.2.2.2.1 _ (List.mem_append_right _ (List.mem_cons_of_mem _ (List.mem_append_left _ (List.mem_of_getElem? (i := 111) rfl))))⟩
      · exact ⟨_, rfl, hC.2.2.2.1 _ (List.mem_append_right _ (List.mem_cons_of_mem _ (List.mem_append_left _ (List.mem_of_getElem? (i := 112) rfl))))⟩
      · exact ⟨_, rfl, hC.2.2.2.1 _ (List.mem_append_right _ (List.mem_cons_of_mem _ (List.mem_append_left _ (List.mem_of_getElem? (i := 122) rfl))))⟩
      · exact ⟨_, rfl, hC.2.2.2.1 _ (List.mem_append_right _ (List.mem_cons_of_mem _ (List.mem_append_left _ (List.mem_of_getElem? (i := 123) rfl))))⟩
      · exact ⟨_, rfl, hC.2.2.2.1 _ (List.mem_append_right _ (List.mem_cons_of_mem _ (List.mem_append_left _ (List.mem_of_getElem? (i := 124) rfl))))⟩
      · exact ⟨_, rfl, hC.2.2.2.1 _ (List.mem_append_right _ (List.mem_cons_of_mem _ (List.mem_append_left _ (List.mem_of_getElem? (i := 125) rfl))))⟩
      · exact ⟨_, rfl, hC.2.2.2.1 _ (List.mem_append_right _ (List.mem_cons_of_mem _ (List.mem_append_left _ (List.mem_of_getElem? (i := 136) rfl))))⟩
      · exact ⟨_, rfl, hC.2.2.2.1 _ (List.mem_append_right _ (List.mem_cons_of_mem _ (List.mem_append_left _ (List.mem_of_getElem? (i := 137) rfl))))⟩
      · exact ⟨_, rfl, hC.2.2.2.1 _ (List.mem_append_right _ (List.mem_cons_of_mem _ (List.mem_append_left _ (List.mem_of_getElem? (i := 138) rfl))))⟩
      · exact ⟨_, rfl, hC.2.2.2.1 _ (List.mem_append_right _ (List.mem_cons_of_mem _ (List.mem_append_left _ (List.mem_of_getElem? (i := 139) rfl))))⟩
      · exact ⟨_, rfl, hC.2.2.2.1 _ (List.mem_append_right _ (List.mem_cons_of_mem _ (List.mem_append_left _ (List.mem_of_getElem? (i := 163) rfl))))⟩
      · exact ⟨_, rfl, hC.2.2.2.1 _ (List.mem_append_right _ (List.mem_cons_of_mem _ (List.mem_append_left _ (List.mem_of_getElem? (i := 164) rfl))))⟩
      · exact ⟨_, rfl, hC.2.2.2.1 _ (List.mem_append_right _ (List.mem_cons_of_mem _ (List.mem_append_left _ (List.mem_of_getElem? (i := 165) rfl))))⟩
      · exact ⟨_, rfl, hC.2.2.2.1 _ (List.mem_append_right _ (List.mem_cons_of_mem _ (List.mem_append_left _ (List.mem_of_getElem? (i := 166) rfl))))⟩
      · exact ⟨_, rfl, hC.2.1⟩
      · refine ⟨xR 40 (fdoc dl 40), ?_, hC.2.2.2.1 (v7, _) (List.mem_append_right _ List.mem_cons_self)⟩
        have e : (fun k => if k < 40 then some (LLc dl ([b, v1, v2, v3, v4, v5, v6, v7, v8, v9, v10, v11, v12, v13, v14, v15, v16, v17, v18, v19, v20, v21, v22, v23, v24, v25, v26, v27, v28, v29, v30, v31, v32, v33, v34, v35, v36, v37, v38, v39] ++ ([v40, v41, v42, v43, v44, v45, v46, v47, v48, v49, v50, v51, v52, v53, v54, v55, v56, v57, v58, v59, v60, v61, v62, v63, v64, v65, v66, v67, v68, v69, v70, v71, v72, v73, v74, v75, v76, v77, v78, v79] ++ ([v80, v81, v82, v83, v84, v85, v86, v87, v88, v89, v90, v91, v92, v93, v94, v95, v96, v97, v98, v99, v100, v101, v102, v103, v104, v105, v106, v107, v108, v109, v110, v111, v112, v113, v114, v115, v116, v117, v118, v119] ++ ([v120, v121, v122, v123, v124, v125, v126, v127, v128, v129, v130, v131, v132, v133, v134, v135, v136, v137, v138, v139, v140, v141, v142, v143, v144, v145, v146, v147, v148, v149, v150, v151, v152, v153, v154, v155, v156, v157, v158, v159] ++ [v160, v161, v162, v163, v164, v165, v166, v167, v168, v169, v170, v171, v172, v173, v174])))) M (8 * k)) else none) = fdoc dl 40 := by
          funext k
          unfold fdoc
          by_cases hk : k < 40
          · rw [if_pos hk, if_pos hk, LLc_d (by omega)]
          · rw [if_neg hk, if_neg hk]
        rw [gs_469, e]
      · exact ⟨_, rfl, hC.2.2.2.1 _ (List.mem_append_right _ (List.mem_cons_of_mem _ (List.mem_append_left _ (List.mem_of_getElem? (i := 16) rfl))))⟩
      · exact ⟨_, rfl, hC.2.2.2.1 _ (List.mem_append_right _ (List.mem_cons_of_mem _ (List.mem_append_left _ (List.mem_of_getElem? (i := 39) rfl))))⟩
      · exact ⟨_, rfl, hC.2.2.2.1 _ (List.mem_append_right _ (List.mem_cons_of_mem _ (List.mem_append_left _ (List.mem_of_getElem? (i := 44) rfl))))⟩
      · exact ⟨_, rfl, hC.2.2.2.1 _ (List.mem_append_right _ (List.mem_cons_of_mem _ (List.mem_append_left _ (List.mem_of_getElem? (i := 45) rfl))))⟩
      · exact ⟨_, rfl, hC.2.2.2.1 _ (List.mem_append_right _ (List.mem_cons_of_mem _ (List.mem_append_left _ (List.mem_of_getElem? (i := 52) rfl))))⟩
      · exact ⟨_, rfl, hC.2.2.2.1 _ (List.mem_append_right _ (List.mem_cons_of_mem _ (List.mem_append_left _ (List.mem_of_getElem? (i := 53) rfl))))⟩
      · exact ⟨_, rfl, hC.2.2.2.1 _ (List.mem_append_right _ (List.mem_cons_of_mem _ (List.mem_append_left _ (List.mem_of_getElem? (i := 54) rfl))))⟩
      · exact ⟨_, rfl, hC.2.2.2.1 _ (List.mem_append_right _ (List.mem_cons_of_mem _ (List.mem_append_left _ (List.mem_of_getElem? (i := 55) rfl))))⟩
      · exact ⟨_, rfl, hC.2.2.2.1 _ (List.mem_append_right _ (List.mem_cons_of_mem _ (List.mem_append_left _ (List.mem_of_getElem? (i := 58) rfl))))⟩
      · exact ⟨_, rfl, hC.2.2.2.1 _ (List.mem_append_right _ (List.mem_cons_of_mem _ (List.mem_append_left _ (List.mem_of_getElem? (i := 59) rfl))))⟩
      · exact ⟨_, rfl, hC.2.2.2.1 _ (List.mem_append_right _ (List.mem_cons_of_mem _ (List.mem_append_left _ (List.mem_of_getElem? (i := 60) rfl))))⟩
      · exact ⟨_, rfl, hC.2.2.2.1 _ (List.mem_append_right _ (List.mem_cons_of_mem _ (List.mem_append_left _ (List.mem_of_getElem? (i := 61) rfl))))⟩
      · exact ⟨_, rfl, hC.2.2.2.1 _ (List.mem_append_right _ (List.mem_cons_of_mem _ (List.mem_append_left _ (List.mem_of_getElem? (i := 70) rfl))))⟩
      · exact ⟨_, rfl, hC.2.2.2.1 _ (List.mem_append_right _ (List.mem_cons_of_mem _ (List.mem_append_left _ (List.mem_of_getElem? (i := 103) rfl))))⟩
      · exact ⟨_, rfl, hC.2.2.2.1 _ (List.mem_append_right _ (List.mem_cons_of_mem _ (List.mem_append_left _ (List.mem_of_getElem? (i := 108) rfl))))⟩
      · exact ⟨_, rfl, hC.2.2.2.1 _ (List.mem_append_right _ (List.mem_cons_of_mem _ (List.mem_append_left _ (List.mem_of_getElem? (i := 113) rfl))))⟩
      · exact ⟨_, rfl, hC.2.2.2.1 _ (List.mem_append_right _ (List.mem_cons_of_mem _ (List.mem_append_left _ (List.mem_of_getElem? (i := 126) rfl))))⟩
      · exact ⟨_, rfl, hC.2.2.2.1 _ (List.mem_append_right _ (List.mem_cons_of_mem _ (List.mem_append_left _ (List.mem_of_getElem? (i := 127) rfl))))⟩
      · exact ⟨_, rfl, hC.2.2.2.1 _ (List.mem_append_right _ (List.mem_cons_of_mem _ (List.mem_append_left _ (List.mem_of_getElem? (i := 140) rfl))))⟩
      · exact ⟨_, rfl, hC.2.2.2.1 _ (List.mem_append_right _ (List.mem_cons_of_mem _ (List.mem_append_left _ (List.mem_of_getElem? (i := 141) rfl))))⟩
      · exact ⟨_, rfl, hC.2.2.2.1 _ (List.mem_append_right _ (List.mem_cons_of_mem _ (List.mem_append_left _ (List.mem_of_getElem? (i := 142) rfl))))⟩
      · exact ⟨_, rfl, hC.2.2.2.1 _ (List.mem_append_right _ (List.mem_cons_of_mem _ (List.mem_append_left _ (List.mem_of_getElem? (i := 143) rfl))))⟩
      · exact ⟨_, rfl, hC.2.2.2.1 _ (List.mem_append_right _ (List.mem_cons_of_mem _ (List.mem_append_left _ (List.mem_of_getElem? (i := 144) rfl))))⟩
      · exact ⟨_, rfl, hC.2.2.2.1 _ (List.mem_append_right _ (List.mem_cons_of_mem _ (List.mem_append_left _ (List.mem_of_getElem? (i := 145) rfl))))⟩
      · exact ⟨_, rfl, hC.2.2.2.1 _ (List.mem_append_right _ (List.mem_cons_of_mem _ (List.mem_append_left _ (List.mem_of_getElem? (i := 146) rfl))))⟩
    intro c hc
    by_cases h1 : c < 320
    · exact Or.inl (hdoc c h1)
    · by_cases h3 : c < 495
      · exact Or.inl (hlow c (ids_in c h3 h1))
      · right
        unfold gsh
        rw [if_neg (by omega), if_neg (by omega)]
        by_cases h4 : c < 500
        · rw [if_pos h4]
          rcases (show c = 495 ∨ c = 496 ∨ c = 497 ∨ c = 498 ∨ c = 499 by omega) with rfl | rfl | rfl | rfl | rfl <;> rfl
        · rw [if_neg h4]
  intro c hc x hx9
  rcases hx c hc with ⟨e, h3, h4⟩ | h3
  · rw [h3] at hx9
    cases hx9
    exact h4
  · rw [h3] at hx9
    cases hx9
set_option maxHeartbeats 16000000 in
set_option maxRecDepth 100000 in
/-- the class made -/
theorem n_X11 {l : Launch} {Z : XZ} {n d b : Nat} {h : XH} {x : Int} {S1 : GS} (hd : 5 ≤ d) (hb : h b = some (xO 10 [.null, .null, .null, .null, .null, .null, .null, .null, .null, .null, .null, .null, .null, .null, .int 0, .int 0])) (H : f_X11_init n d 193 S0c [] = some (x, S1)) : XMet l Z yX11_init cX11_init 2 none [] d 494 500839 [.ref b] h (fun v h' => v = none ∧ ∃ L, Gh L S1 h' ∧ L 468 = b ∧ L 700 = 0 ∧ L 701 = 0) (fun _ _ => False) := by
  refine XMet.of (by decide) (Nat.le_of_ble_eq_true rfl) ?_
  have hC := cn_start hb
  refine XA.aload_n dX11_init_0 rfl ?_
  refine XA.objInit ⟨xs_X11_1, xobj.1, xobj.2⟩ dX11_init_1 (Nat.le_of_ble_eq_true rfl) ?_
  refine XA.aload_n dX11_init_4 rfl ?_
  refine XA.new (xnw_X9 xcl_X11_7) dX11_init_5 (Nat.le_of_ble_eq_true rfl) (Nat.le_of_ble_eq_true rfl) (fun v1 hq1 => ?_)
  refine XA.dup dX11_init_8 rfl ?_
  refine XA.sipush (v := J ((400 : Nat) : Int)) dX11_init_9 (by decide) ?_
  refine XA.callI (As := [.int (J ((400 : Nat) : Int))]) (n_X9 (N := 400) (d := d - 1) (by decide) xup_s) xs_X11_11 dX11_init_12 rfl (by omega) (by decide) rfl (Nat.le_of_ble_eq_true rfl) (Nat.le_of_ble_eq_true rfl) (Nat.le_of_ble_eq_true rfl) (fun E h9 hx => hx.elim) (fun v h9 hq => ?_)
  obtain ⟨rfl, v2, hN⟩ := hq
  have hC := cn_obj hC hq1 hN
  refine XN.put hC (xp_X11_14 _) dX11_init_15 (Nat.le_of_ble_eq_true rfl) (fun h9 hC => ?_)
  have hC : Cn h h9 b (xO 10 [.ref v1, .null, .null, .null, .null, .null, .null, .null, .null, .null, .null, .null, .null, .null, .int 0, .int 0]) _ := hC
  refine XA.aload_n dX11_init_18 rfl ?_
  refine XA.new (xnw_X9 xcl_X11_7) dX11_init_19 (Nat.le_of_ble_eq_true rfl) (Nat.le_of_ble_eq_true rfl) (fun v3 hq3 => ?_)
  refine XA.dup dX11_init_22 rfl ?_
  refine XA.ldc (v := J ((36000 : Nat) : Int)) xc_X11_18 dX11_init_23 ?_
  refine XA.callI (As := [.int (J ((36000 : Nat) : Int))]) (n_X9 (N := 36000) (d := d - 1) (by decide) xup_s) xs_X11_11 dX11_init_25 rfl (by omega) (by decide) rfl (Nat.le_of_ble_eq_true rfl) (Nat.le_of_ble_eq_true rfl) (Nat.le_of_ble_eq_true rfl) (fun E h9 hx => hx.elim) (fun v h9 hq => ?_)
  obtain ⟨rfl, v4, hN⟩ := hq
  have hC := cn_obj hC hq3 hN
  refine XN.put hC (xp_X11_19 _) dX11_init_28 (Nat.le_of_ble_eq_true rfl) (fun h9 hC => ?_)
  have hC : Cn h h9 b (xO 10 [.ref v1, .ref v3, .null, .null, .null, .null, .null, .null, .null, .null, .null, .null, .null, .null, .int 0, .int 0]) _ := hC
  refine XA.aload_n dX11_init_31 rfl ?_
  refine XA.new (xnw_X9 xcl_X11_7) dX11_init_32 (Nat.le_of_ble_eq_true rfl) (Nat.le_of_ble_eq_true rfl) (fun v5 hq5 => ?_)
  refine XA.dup dX11_init_35 rfl ?_
  refine XA.ldc (v := J ((36000 : Nat) : Int)) xc_X11_18 dX11_init_36 ?_
  refine XA.callI (As := [.int (J ((36000 : Nat) : Int))]) (n_X9 (N := 36000) (d := d - 1) (by decide) xup_s) xs_X11_11 dX11_init_38 rfl (by omega) (by decide) rfl (Nat.le_of_ble_eq_true rfl) (Nat.le_of_ble_eq_true rfl) (Nat.le_of_ble_eq_true rfl) (fun E h9 hx => hx.elim) (fun v h9 hq => ?_)
  obtain ⟨rfl, v6, hN⟩ := hq
  have hC := cn_obj hC hq5 hN
  refine XN.put hC (xp_X11_22 _) dX11_init_41 (Nat.le_of_ble_eq_true rfl) (fun h9 hC => ?_)
  have hC : Cn h h9 b (xO 10 [.ref v1, .ref v3, .ref v5, .null, .null, .null, .null, .null, .null, .null, .null, .null, .null, .null, .int 0, .int 0]) _ := hC
  refine XA.aload_n dX11_init_44 rfl ?_
  refine XA.bipush (v := J ((40 : Nat) : Int)) dX11_init_45 (by decide) ?_
  refine XN.anew (N := 40) hC xcl_X11_25 dX11_init_47 (by decide) (by decide) (Nat.le_of_ble_eq_true rfl) (Nat.le_of_ble_eq_true rfl) (Nat.le_of_ble_eq_true rfl) (fun v7 h9 hC => ?_)
  refine XN.put hC (xp_X11_27 _) dX11_init_50 (Nat.le_of_ble_eq_true rfl) (fun h9 hC => ?_)
  have hC : Cn h h9 b (xO 10 [.ref v1, .ref v3, .ref v5, .ref v7, .null, .null, .null, .null, .null, .null, .null, .null, .null, .null, .int 0, .int 0]) _ := hC
  refine XA.aload_n dX11_init_53 rfl ?_
  refine XA.new (xnw_X10 xcl_X11_25) dX11_init_54 (Nat.le_of_ble_eq_true rfl) (Nat.le_of_ble_eq_true rfl) (fun v8 hq8 => ?_)
  refine XA.dup dX11_init_57 rfl ?_
  refine XA.callI (As := []) (n_X10 (d := d - 1) xup_s) xs_X11_31 dX11_init_58 rfl (by omega) (by decide) rfl (Nat.le_of_ble_eq_true rfl) (Nat.le_of_ble_eq_true rfl) (Nat.le_of_ble_eq_true rfl) (fun E h9 hx => hx.elim) (fun v h9 hq => ?_)
  obtain ⟨rfl, v9, v10, v11, v12, v13, v14, v15, hN⟩ := hq
  have hC := cn_obj hC hq8 hN
  refine XN.put hC (xp_X11_32 _) dX11_init_61 (Nat.le_of_ble_eq_true rfl) (fun h9 hC => ?_)
  have hC : Cn h h9 b (xO 10 [.ref v1, .ref v3, .ref v5, .ref v7, .ref v8, .null, .null, .null, .null, .null, .null, .null, .null, .null, .int 0, .int 0]) _ := hC
  refine XA.aload_n dX11_init_64 rfl ?_
  refine XA.new (xnw_X10 xcl_X11_25) dX11_init_65 (Nat.le_of_ble_eq_true rfl) (Nat.le_of_ble_eq_true rfl) (fun v16 hq16 => ?_)
  refine XA.dup dX11_init_68 rfl ?_
  refine XA.callI (As := []) (n_X10 (d := d - 1) xup_s) xs_X11_31 dX11_init_69 rfl (by omega) (by decide) rfl (Nat.le_of_ble_eq_true rfl) (Nat.le_of_ble_eq_true rfl) (Nat.le_of_ble_eq_true rfl) (fun E h9 hx => hx.elim) (fun v h9 hq => ?_)
  obtain ⟨rfl, v17, v18, v19, v20, v21, v22, v23, hN⟩ := hq
  have hC := cn_obj hC hq16 hN
  refine XN.put hC (xp_X11_36 _) dX11_init_72 (Nat.le_of_ble_eq_true rfl) (fun h9 hC => ?_)
  have hC : Cn h h9 b (xO 10 [.ref v1, .ref v3, .ref v5, .ref v7, .ref v8, .ref v16, .null, .null, .null, .null, .null, .null, .null, .null, .int 0, .int 0]) _ := hC
  refine XA.aload_n dX11_init_75 rfl ?_
  refine XA.new (xnw_X6 xcl_X11_39) dX11_init_76 (Nat.le_of_ble_eq_true rfl) (Nat.le_of_ble_eq_true rfl) (fun v24 hq24 => ?_)
  refine XA.dup dX11_init_79 rfl ?_
  refine XA.callI (As := []) (n_X6 (d := d - 1) (by omega) xup_s) xs_X11_41 dX11_init_80 rfl (by omega) (by decide) rfl (Nat.le_of_ble_eq_true rfl) (Nat.le_of_ble_eq_true rfl) (Nat.le_of_ble_eq_true rfl) (fun E h9 hx => hx.elim) (fun v h9 hq => ?_)
  obtain ⟨rfl, v25, v26, v27, v28, v29, v30, v31, v32, v33, v34, v35, v36, v37, v38, v39, v40, v41, v42, v43, v44, v45, v46, hN⟩ := hq
  have hC := cn_obj hC hq24 hN
  refine XN.put hC (xp_X11_42 _) dX11_init_83 (Nat.le_of_ble_eq_true rfl) (fun h9 hC => ?_)
  have hC : Cn h h9 b (xO 10 [.ref v1, .ref v3, .ref v5, .ref v7, .ref v8, .ref v16, .ref v24, .null, .null, .null, .null, .null, .null, .null, .int 0, .int 0]) _ := hC
  refine XA.aload_n dX11_init_86 rfl ?_
  refine XA.new (xnw_X7 xcl_X11_46) dX11_init_87 (Nat.le_of_ble_eq_true rfl) (Nat.le_of_ble_eq_true rfl) (fun v47 hq47 => ?_)
  refine XA.dup dX11_init_90 rfl ?_
  refine XA.callI (As := []) (n_X7 (d := d - 1) (by omega) xup_s) xs_X11_48 dX11_init_91 rfl (by omega) (by decide) rfl (Nat.le_of_ble_eq_true rfl) (Nat.le_of_ble_eq_true rfl) (Nat.le_of_ble_eq_true rfl) (fun E h9 hx => hx.elim) (fun v h9 hq => ?_)
  obtain ⟨rfl, v48, v49, v50, v51, v52, hN⟩ := hq
  have hC := cn_obj hC hq47 hN
  refine XN.put hC (xp_X11_49 _) dX11_init_94 (Nat.le_of_ble_eq_true rfl) (fun h9 hC => ?_)
  have hC : Cn h h9 b (xO 10 [.ref v1, .ref v3, .ref v5, .ref v7, .ref v8, .ref v16, .ref v24, .ref v47, .null, .null, .null, .null, .null, .null, .int 0, .int 0]) _ := hC
  refine XA.aload_n dX11_init_97 rfl ?_
  refine XA.new (xnw_X2 xcl_X11_53) dX11_init_98 (Nat.le_of_ble_eq_true rfl) (Nat.le_of_ble_eq_true rfl) (fun v53 hq53 => ?_)
  refine XA.dup dX11_init_101 rfl ?_
  refine XA.callI (As := []) (n_X2 (d := d - 1) (by omega) xup_s) xs_X11_55 dX11_init_102 rfl (by omega) (by decide) rfl (Nat.le_of_ble_eq_true rfl) (Nat.le_of_ble_eq_true rfl) (Nat.le_of_ble_eq_true rfl) (fun E h9 hx => hx.elim) (fun v h9 hq => ?_)
  obtain ⟨rfl, v54, v55, v56, v57, v58, v59, v60, v61, v62, hN⟩ := hq
  have hC := cn_obj hC hq53 hN
  refine XN.put hC (xp_X11_56 _) dX11_init_105 (Nat.le_of_ble_eq_true rfl) (fun h9 hC => ?_)
  have hC : Cn h h9 b (xO 10 [.ref v1, .ref v3, .ref v5, .ref v7, .ref v8, .ref v16, .ref v24, .ref v47, .ref v53, .null, .null, .null, .null, .null, .int 0, .int 0]) _ := hC
  refine XA.aload_n dX11_init_108 rfl ?_
  refine XA.new (xnw_X5 xcl_X11_60) dX11_init_109 (Nat.le_of_ble_eq_true rfl) (Nat.le_of_ble_eq_true rfl) (fun v63 hq63 => ?_)
  refine XA.dup dX11_init_112 rfl ?_
  refine XA.callI (As := []) (n_X5 (d := d - 1) (by omega) xup_s) xs_X11_62 dX11_init_113 rfl (by omega) (by decide) rfl (Nat.le_of_ble_eq_true rfl) (Nat.le_of_ble_eq_true rfl) (Nat.le_of_ble_eq_true rfl) (fun E h9 hx => hx.elim) (fun v h9 hq => ?_)
  obtain ⟨rfl, v64, v65, v66, v67, v68, v69, v70, v71, v72, v73, v74, v75, v76, v77, hN⟩ := hq
  have hC := cn_obj hC hq63 hN
  refine XN.put hC (xp_X11_63 _) dX11_init_116 (Nat.le_of_ble_eq_true rfl) (fun h9 hC => ?_)
  have hC : Cn h h9 b (xO 10 [.ref v1, .ref v3, .ref v5, .ref v7, .ref v8, .ref v16, .ref v24, .ref v47, .ref v53, .ref v63, .null, .null, .null, .null, .int 0, .int 0]) _ := hC
  refine XA.aload_n dX11_init_119 rfl ?_
  refine XA.new (xnw_X1 xcl_X11_67) dX11_init_120 (Nat.le_of_ble_eq_true rfl) (Nat.le_of_ble_eq_true rfl) (fun v78 hq78 => ?_)
  refine XA.dup dX11_init_123 rfl ?_
  refine XA.callI (As := []) (n_X1 (d := d - 1) (by omega) xup_s) xs_X11_69 dX11_init_124 rfl (by omega) (by decide) rfl (Nat.le_of_ble_eq_true rfl) (Nat.le_of_ble_eq_true rfl) (Nat.le_of_ble_eq_true rfl) (fun E h9 hx => hx.elim) (fun v h9 hq => ?_)
  obtain ⟨rfl, v79, v80, v81, v82, v83, v84, v85, v86, v87, v88, v89, v90, v91, v92, v93, v94, v95, v96, v97, v98, v99, v100, v101, v102, v103, v104, v105, v106, v107, v108, v109, v110, v111, v112, v113, v114, v115, v116, v117, v118, v119, v120, hN⟩ := hq
  have hC := cn_obj hC hq78 hN
  refine XN.put hC (xp_X11_70 _) dX11_init_127 (Nat.le_of_ble_eq_true rfl) (fun h9 hC => ?_)
  have hC : Cn h h9 b (xO 10 [.ref v1, .ref v3, .ref v5, .ref v7, .ref v8, .ref v16, .ref v24, .ref v47, .ref v53, .ref v63, .ref v78, .null, .null, .null, .int 0, .int 0]) _ := hC
  refine XA.aload_n dX11_init_130 rfl ?_
  refine XA.new (xnw_X4 xcl_X11_74) dX11_init_131 (Nat.le_of_ble_eq_true rfl) (Nat.le_of_ble_eq_true rfl) (fun v121 hq121 => ?_)
  refine XA.dup dX11_init_134 rfl ?_
  refine XA.callI (As := []) (n_X4 (d := d - 1) (by omega) xup_s) xs_X11_76 dX11_init_135 rfl (by omega) (by decide) rfl (Nat.le_of_ble_eq_true rfl) (Nat.le_of_ble_eq_true rfl) (Nat.le_of_ble_eq_true rfl) (fun E h9 hx => hx.elim) (fun v h9 hq => ?_)
  obtain ⟨rfl, v122, v123, v124, v125, v126, v127, v128, v129, v130, v131, v132, v133, v134, hN⟩ := hq
  have hC := cn_obj hC hq121 hN
  refine XN.put hC (xp_X11_77 _) dX11_init_138 (Nat.le_of_ble_eq_true rfl) (fun h9 hC => ?_)
  have hC : Cn h h9 b (xO 10 [.ref v1, .ref v3, .ref v5, .ref v7, .ref v8, .ref v16, .ref v24, .ref v47, .ref v53, .ref v63, .ref v78, .ref v121, .null, .null, .int 0, .int 0]) _ := hC
  refine XA.aload_n dX11_init_141 rfl ?_
  refine XA.new (xnw_X0 xcl_X11_81) dX11_init_142 (Nat.le_of_ble_eq_true rfl) (Nat.le_of_ble_eq_true rfl) (fun v135 hq135 => ?_)
  refine XA.dup dX11_init_145 rfl ?_
  refine XA.callI (As := []) (n_X0 (d := d - 1) (by omega) xup_s) xs_X11_83 dX11_init_146 rfl (by omega) (by decide) rfl (Nat.le_of_ble_eq_true rfl) (Nat.le_of_ble_eq_true rfl) (Nat.le_of_ble_eq_true rfl) (fun E h9 hx => hx.elim) (fun v h9 hq => ?_)
  obtain ⟨rfl, v136, v137, v138, v139, v140, v141, v142, v143, v144, v145, v146, v147, v148, v149, v150, v151, v152, v153, hN⟩ := hq
  have hC := cn_obj hC hq135 hN
  refine XN.put hC (xp_X11_84 _) dX11_init_149 (Nat.le_of_ble_eq_true rfl) (fun h9 hC => ?_)
  have hC : Cn h h9 b (xO 10 [.ref v1, .ref v3, .ref v5, .ref v7, .ref v8, .ref v16, .ref v24, .ref v47, .ref v53, .ref v63, .ref v78, .ref v121, .ref v135, .null, .int 0, .int 0]) _ := hC
  refine XA.aload_n dX11_init_152 rfl ?_
  refine XA.new (xnw_X3 xcl_X11_88) dX11_init_153 (Nat.le_of_ble_eq_true rfl) (Nat.le_of_ble_eq_true rfl) (fun v154 hq154 => ?_)
  refine XA.dup dX11_init_156 rfl ?_
  refine XA.callI (As := []) (n_X3 (d := d - 1) (by omega) xup_s) xs_X11_90 dX11_init_157 rfl (by omega) (by decide) rfl (Nat.le_of_ble_eq_true rfl) (Nat.le_of_ble_eq_true rfl) (Nat.le_of_ble_eq_true rfl) (fun E h9 hx => hx.elim) (fun v h9 hq => ?_)
  obtain ⟨rfl, v155, v156, v157, v158, v159, v160, v161, v162, v163, v164, v165, v166, v167, v168, v169, v170, v171, v172, v173, v174, hN⟩ := hq
  have hC := cn_obj hC hq154 hN
  refine XN.put hC (xp_X11_91 _) dX11_init_160 (Nat.le_of_ble_eq_true rfl) (fun h9 hC => ?_)
  have hC : Cn h h9 b (xO 10 [.ref v1, .ref v3, .ref v5, .ref v7, .ref v8, .ref v16, .ref v24, .ref v47, .ref v53, .ref v63, .ref v78, .ref v121, .ref v135, .ref v154, .int 0, .int 0]) _ := hC
  refine XA.iconst (v := J ((0 : Nat) : Int)) dX11_init_163 (by decide) ?_
  refine XA.istore_n dX11_init_164 (by decide) rfl ?_
  have hC : Cn h h9 b (xO 10 [.ref v1, .ref v3, .ref v5, .ref v7, .ref v8, .ref v16, .ref v24, .ref v47, .ref v53, .ref v63, .ref v78, .ref v121, .ref v135, .ref v154, .int 0, .int 0]) ([(v1, xO 8 [.ref v2, .int 0]), (v2, xI 2 400 xz), (v3, xO 8 [.ref v4, .int 0]), (v4, xI 2 36000 xz), (v5, xO 8 [.ref v6, .int 0]), (v6, xI 2 36000 xz)] ++ (v7, xR 40 (fdoc (fun _ => 0) 0)) :: (([(v8, xO 9 [.ref v9, .ref v10, .ref v11, .ref v12, .ref v13, .ref v14, .ref v15, .int 0, .int 0]), (v9, xI 0 100 xz), (v10, xI 0 100 xz), (v11, xI 0 100 xz), (v12, xI 0 100 xz), (v13, xI 2 4000 xz), (v14, xI 0 100 xz), (v15, xI 2 1200 xz), (v16, xO 9 [.ref v17, .ref v18, .ref v19, .ref v20, .ref v21, .ref v22, .ref v23, .int 0, .int 0]), (v17, xI 0 100 xz), (v18, xI 0 100 xz), (v19, xI 0 100 xz), (v20, xI 0 100 xz), (v21, xI 2 4000 xz), (v22, xI 0 100 xz), (v23, xI 2 1200 xz), (v24, xO 6 [.ref v25, .ref v33, .ref v41, .ref v43, .ref v45, .ref v41, .int 0, .int 0, .int 0, .int 0]), (v25, xO 9 [.ref v26, .ref v27, .ref v28, .ref v29, .ref v30, .ref v31, .ref v32, .int 0, .int 0]), (v26, xI 0 100 xz), (v27, xI 0 100 xz), (v28, xI 0 100 xz), (v29, xI 0 100 xz), (v30, xI 2 4000 xz), (v31, xI 0 100 xz), (v32, xI 2 1200 xz), (v33, xO 9 [.ref v34, .ref v35, .ref v36, .ref v37, .ref v38, .ref v39, .ref v40, .int 0, .int 0]), (v34, xI 0 100 xz), (v35, xI 0 100 xz), (v36, xI 0 100 xz), (v37, xI 0 100 xz), (v38, xI 2 4000 xz), (v39, xI 0 100 xz), (v40, xI 2 1200 xz), (v41, xO 8 [.ref v42, .int 0]), (v42, xI 2 12 xz), (v43, xO 8 [.ref v44, .int 0]), (v44, xI 2 40 xz), (v45, xO 8 [.ref v46, .int 0]), (v46, xI 2 24 xz), (v47, xO 7 [.ref v48, .ref v50, .ref v52, .int 0])] ++ ([(v48, xO 8 [.ref v49, .int 0]), (v49, xI 2 400 xz), (v50, xO 8 [.ref v51, .int 0]), (v51, xI 2 400 xz), (v52, xI 0 400 xz), (v53, xO 2 [.ref v54, .ref v56, .ref v58, .ref v60, .ref v61, .ref v62, .int 0]), (v54, xO 8 [.ref v55, .int 0]), (v55, xI 2 400 xz), (v56, xO 8 [.ref v57, .int 0]), (v57, xI 2 400 xz), (v58, xO 8 [.ref v59, .int 0]), (v59, xI 2 36000 xz), (v60, xI 0 100 xz), (v61, xI 0 100 xz), (v62, xI 3 100 xz), (v63, xO 5 [.ref v64, .ref v66, .ref v67, .ref v68, .ref v69, .ref v70, .ref v70, .ref v70]), (v64, xO 8 [.ref v65, .int 0]), (v65, xI 2 400 xz), (v66, xI 3 10000 xz), (v67, xI 0 10000 xz), (v68, xI 0 100 xz), (v69, xI 0 100 xz), (v70, xO 9 [.ref v71, .ref v72, .ref v73, .ref v74, .ref v75, .ref v76, .ref v77, .int 0, .int 0]), (v71, xI 0 100 xz), (v72, xI 0 100 xz), (v73, xI 0 100 xz), (v74, xI 0 100 xz), (v75, xI 2 4000 xz), (v76, xI 0 100 xz), (v77, xI 2 1200 xz), (v78, xO 1 [.ref v79, .ref v87, .ref v95, .ref v103, .ref v111, .ref v117, .ref v119, .int 0, .int 0, .int 0, .int 0, .int 0]), (v79, xO 9 [.ref v80, .ref v81, .ref v82, .ref v83, .ref v84, .ref v85, .ref v86, .int 0, .int 0]), (v80, xI 0 100 xz), (v81, xI 0 100 xz), (v82, xI 0 100 xz), (v83, xI 0 100 xz), (v84, xI 2 4000 xz), (v85, xI 0 100 xz), (v86, xI 2 1200 xz), (v87, xO 9 [.ref v88, .ref v89, .ref v90, .ref v91, .ref v92, .ref v93, .ref v94, .int 0, .int 0])] ++ ([(v88, xI 0 100 xz), (v89, xI 0 100 xz), (v90, xI 0 100 xz), (v91, xI 0 100 xz), (v92, xI 2 4000 xz), (v93, xI 0 100 xz), (v94, xI 2 1200 xz), (v95, xO 9 [.ref v96, .ref v97, .ref v98, .ref v99, .ref v100, .ref v101, .ref v102, .int 0, .int 0]), (v96, xI 0 100 xz), (v97, xI 0 100 xz), (v98, xI 0 100 xz), (v99, xI 0 100 xz), (v100, xI 2 4000 xz), (v101, xI 0 100 xz), (v102, xI 2 1200 xz), (v103, xO 9 [.ref v104, .ref v105, .ref v106, .ref v107, .ref v108, .ref v109, .ref v110, .int 0, .int 0]), (v104, xI 0 100 xz), (v105, xI 0 100 xz), (v106, xI 0 100 xz), (v107, xI 0 100 xz), (v108, xI 2 4000 xz), (v109, xI 0 100 xz), (v110, xI 2 1200 xz), (v111, xO 7 [.ref v112, .ref v114, .ref v116, .int 0]), (v112, xO 8 [.ref v113, .int 0]), (v113, xI 2 400 xz), (v114, xO 8 [.ref v115, .int 0]), (v115, xI 2 400 xz), (v116, xI 0 400 xz), (v117, xO 8 [.ref v118, .int 0]), (v118, xI 2 400 xz), (v119, xO 8 [.ref v120, .int 0]), (v120, xI 2 400 xz), (v121, xO 4 [.ref v122, .ref v130, .ref v132, .ref v134, .ref v122, .ref v122, .ref v122, .int 0, .int 0]), (v122, xO 9 [.ref v123, .ref v124, .ref v125, .ref v126, .ref v127, .ref v128, .ref v129, .int 0, .int 0]), (v123, xI 0 100 xz), (v124, xI 0 100 xz), (v125, xI 0 100 xz), (v126, xI 0 100 xz), (v127, xI 2 4000 xz)] ++ ([(v128, xI 0 100 xz), (v129, xI 2 1200 xz), (v130, xO 8 [.ref v131, .int 0]), (v131, xI 2 400 xz), (v132, xO 8 [.ref v133, .int 0]), (v133, xI 2 60000 xz), (v134, xI 0 200 xz), (v135, xO 0 [.ref v136, .ref v144, .ref v146, .ref v148, .ref v149, .ref v150, .ref v151, .ref v152, .ref v153, .ref v136, .ref v136, .int 0, .int 0, .int 0, .int 0, .int 0, .int 0]), (v136, xO 9 [.ref v137, .ref v138, .ref v139, .ref v140, .ref v141, .ref v142, .ref v143, .int 0, .int 0]), (v137, xI 0 100 xz), (v138, xI 0 100 xz), (v139, xI 0 100 xz), (v140, xI 0 100 xz), (v141, xI 2 4000 xz), (v142, xI 0 100 xz), (v143, xI 2 1200 xz), (v144, xO 8 [.ref v145, .int 0]), (v145, xI 2 40 xz), (v146, xO 8 [.ref v147, .int 0]), (v147, xI 2 24 xz), (v148, xI 0 13 xz), (v149, xI 0 13 xz), (v150, xI 0 1000 xz), (v151, xI 0 1000 xz), (v152, xI 0 1000 xz), (v153, xI 0 1000 xz), (v154, xO 3 [.ref v155, .ref v163, .ref v171, .ref v173, .int 0]), (v155, xO 9 [.ref v156, .ref v157, .ref v158, .ref v159, .ref v160, .ref v161, .ref v162, .int 0, .int 0]), (v156, xI 0 100 xz), (v157, xI 0 100 xz), (v158, xI 0 100 xz), (v159, xI 0 100 xz), (v160, xI 2 4000 xz), (v161, xI 0 100 xz), (v162, xI 2 1200 xz), (v163, xO 9 [.ref v164, .ref v165, .ref v166, .ref v167, .ref v168, .ref v169, .ref v170, .int 0, .int 0]), (v164, xI 0 100 xz), (v165, xI 0 100 xz), (v166, xI 0 100 xz), (v167, xI 0 100 xz)] ++ [(v168, xI 2 4000 xz), (v169, xI 0 100 xz), (v170, xI 2 1200 xz), (v171, xO 8 [.ref v172, .int 0]), (v172, xI 2 24 xz), (v173, xO 8 [.ref v174, .int 0]), (v174, xI 2 12 xz)])))) ++ dblk (fun _ => 0) 0)) := by
    have e : (fun _ => none : Nat → Option Nat) = fdoc (fun _ => 0) 0 := by
      funext k
      unfold fdoc
      rw [if_neg (Nat.not_lt_zero k)]
    have e2 : dblk (fun _ => 0) 0 = [] := rfl
    rw [← e, e2, List.append_nil]
    exact hC
  refine x11_loop (nc0 := 174) (ns0 := 272479) (qd := v7) rfl (by omega) (Nat.le_of_ble_eq_true rfl) (Nat.le_of_ble_eq_true rfl) (fun dl h2 hC => ?_) 40 0 rfl _ _ hC
  obtain ⟨L, hG, hL, hL0, hL1⟩ := gh_class hC
  have hk := g_X11_init (l := l) (Z := Z) (L := L) (mc := 494) (ms := 500839) (nc := 174 + 8 * 40) (ns := 272479 + 5709 * 40) (by omega) (by omega) n d S0c x S1 H
  rw [hL] at hk
  refine XA.mono (fun v h' hq => ?_) (fun E h' hq => ?_) (hk h2 [(0, .ref b)] hG (fun i v hv => xlk_mem hv))
  · obtain ⟨S', h1, rfl, rfl⟩ := hq
    exact ⟨rfl, L, h1, hL, hL0, hL1⟩
  · obtain ⟨S', h1, h3⟩ := hq
    exact h3
