/-! THE REFERENCE MADE -/
set_option maxHeartbeats 4000000 in
set_option maxRecDepth 20000 in
theorem gsh_low {L L1 : Nat → Nat} (hL : ∀ c, c < 495 → L1 c = L c) {c : Nat} {I : Nat → Int} {B : Nat → Bool} {R : Nat → Nat} (hR : ∀ k, R k < 495) (hc : c < 495) : gsh L1 c I B R = gsh L c I B R := by
  by_cases h1 : c < 424
  · rcases (show c % 8 = 0 ∨ c % 8 = 1 ∨ c % 8 = 2 ∨ c % 8 = 3 ∨ c % 8 = 4 ∨ c % 8 = 5 ∨ c % 8 = 6 ∨ c % 8 = 7 by omega) with e | e | e | e | e | e | e | e
    · rw [gsT ⟨e, h1⟩, gsT ⟨e, h1⟩, hL (c + 1) (by omega), hL (c + 2) (by omega), hL (c + 3) (by omega), hL (c + 4) (by omega), hL (c + 5) (by omega), hL (c + 6) (by omega), hL (c + 7) (by omega)]
    · have hc8 : c = 8 * (c / 8) + 1 := by omega
      rw [hc8, gsT1 ⟨by omega, by omega⟩, gsT1 ⟨by omega, by omega⟩]
    · have hc8 : c = 8 * (c / 8) + 2 := by omega
      rw [hc8, gsT2 ⟨by omega, by omega⟩, gsT2 ⟨by omega, by omega⟩]
    · have hc8 : c = 8 * (c / 8) + 3 := by omega
      rw [hc8, gsT3 ⟨by omega, by omega⟩, gsT3 ⟨by omega, by omega⟩]
    · have hc8 : c = 8 * (c / 8) + 4 := by omega
      rw [hc8, gsT4 ⟨by omega, by omega⟩, gsT4 ⟨by omega, by omega⟩]
    · have hc8 : c = 8 * (c / 8) + 5 := by omega
      rw [hc8, gsT5 ⟨by omega, by omega⟩, gsT5 ⟨by omega, by omega⟩]
    · have hc8 : c = 8 * (c / 8) + 6 := by omega
      rw [hc8, gsT6 ⟨by omega, by omega⟩, gsT6 ⟨by omega, by omega⟩]
    · have hc8 : c = 8 * (c / 8) + 7 := by omega
      rw [hc8, gsT7 ⟨by omega, by omega⟩, gsT7 ⟨by omega, by omega⟩]
  · by_cases h2 : c < 468
    · by_cases h3 : c % 2 = 0
      · rw [gsS ⟨h3, by omega, h2⟩, gsS ⟨h3, by omega, h2⟩, hL (c + 1) (by omega)]
      · have hc2 : c = (c - 1) + 1 := by omega
        rw [hc2, gsS1 ⟨by omega, by omega, by omega⟩, gsS1 ⟨by omega, by omega, by omega⟩]
    · rcases (show c = 468 ∨ c = 469 ∨ c = 470 ∨ c = 471 ∨ c = 472 ∨ c = 473 ∨ c = 474 ∨ c = 475 ∨ c = 476 ∨ c = 477 ∨ c = 478 ∨ c = 479 ∨ c = 480 ∨ c = 481 ∨ c = 482 ∨ c = 483 ∨ c = 484 ∨ c = 485 ∨ c = 486 ∨ c = 487 ∨ c = 488 ∨ c = 489 ∨ c = 490 ∨ c = 491 ∨ c = 492 ∨ c = 493 ∨ c = 494 by omega) with rfl | rfl | rfl | rfl | rfl | rfl | rfl | rfl | rfl | rfl | rfl | rfl | rfl | rfl | rfl | rfl | rfl | rfl | rfl | rfl | rfl | rfl | rfl | rfl | rfl | rfl | rfl
      · rw [gs_468, gs_468, hL 320 (by decide), hL 328 (by decide), hL 424 (by decide), hL 426 (by decide), hL 428 (by decide), hL 469 (by decide), hL 470 (by decide), hL 471 (by decide), hL 473 (by decide), hL 477 (by decide), hL 482 (by decide), hL 485 (by decide), hL 487 (by decide), hL 494 (by decide)]
      · rw [gs_469, gs_469]
        congr 4
        funext k
        by_cases hk : k < 40
        · rw [if_pos hk, if_pos hk, hL _ (by omega)]
        · rw [if_neg hk, if_neg hk]
      · rw [gs_470, gs_470, hL 336 (by decide), hL 344 (by decide), hL 430 (by decide), hL 432 (by decide), hL 434 (by decide), hL (R 5) (hR 5)]
      · rw [gs_471, gs_471, hL 436 (by decide), hL 438 (by decide), hL 472 (by decide)]
      · rfl
      · rw [gs_473, gs_473, hL 440 (by decide), hL 442 (by decide), hL 444 (by decide), hL 474 (by decide), hL 475 (by decide), hL 476 (by decide)]
      · rfl
      · rfl
      · rfl
      · rw [gs_477, gs_477, hL 446 (by decide), hL 478 (by decide), hL 479 (by decide), hL 480 (by decide), hL 481 (by decide), hL (R 5) (hR 5), hL (R 6) (hR 6), hL (R 7) (hR 7)]
      · rfl
      · rfl
      · rfl
      · rfl
      · rw [gs_482, gs_482, hL 360 (by decide), hL 368 (by decide), hL 376 (by decide), hL 384 (by decide), hL 452 (by decide), hL 454 (by decide), hL 483 (by decide)]
      · rw [gs_483, gs_483, hL 448 (by decide), hL 450 (by decide), hL 484 (by decide)]
      · rfl
      · rw [gs_485, gs_485, hL 392 (by decide), hL 456 (by decide), hL 458 (by decide), hL 486 (by decide), hL (R 4) (hR 4), hL (R 5) (hR 5), hL (R 6) (hR 6)]
      · rfl
      · rw [gs_487, gs_487, hL 400 (by decide), hL 460 (by decide), hL 462 (by decide), hL 488 (by decide), hL 489 (by decide), hL 490 (by decide), hL 491 (by decide), hL 492 (by decide), hL 493 (by decide), hL (R 9) (hR 9), hL (R 10) (hR 10)]
      · rfl
      · rfl
      · rfl
      · rfl
      · rfl
      · rfl
      · rw [gs_494, gs_494, hL 408 (by decide), hL 416 (by decide), hL 464 (by decide), hL 466 (by decide)]
set_option maxHeartbeats 4000000 in
set_option maxRecDepth 20000 in
theorem gsh_some {L : Nat → Nat} {c : Nat} {I : Nat → Int} {B : Nat → Bool} {R : Nat → Nat} (hc : c < 495) : ∃ e, gsh L c I B R = some e := by
  by_cases h1 : c < 424
  · rcases (show c % 8 = 0 ∨ c % 8 = 1 ∨ c % 8 = 2 ∨ c % 8 = 3 ∨ c % 8 = 4 ∨ c % 8 = 5 ∨ c % 8 = 6 ∨ c % 8 = 7 by omega) with e | e | e | e | e | e | e | e
    · exact ⟨_, gsT ⟨e, h1⟩⟩
    · have hc8 : c = 8 * (c / 8) + 1 := by omega
      rw [hc8]; exact ⟨_, gsT1 ⟨by omega, by omega⟩⟩
    · have hc8 : c = 8 * (c / 8) + 2 := by omega
      rw [hc8]; exact ⟨_, gsT2 ⟨by omega, by omega⟩⟩
    · have hc8 : c = 8 * (c / 8) + 3 := by omega
      rw [hc8]; exact ⟨_, gsT3 ⟨by omega, by omega⟩⟩
    · have hc8 : c = 8 * (c / 8) + 4 := by omega
      rw [hc8]; exact ⟨_, gsT4 ⟨by omega, by omega⟩⟩
    · have hc8 : c = 8 * (c / 8) + 5 := by omega
      rw [hc8]; exact ⟨_, gsT5 ⟨by omega, by omega⟩⟩
    · have hc8 : c = 8 * (c / 8) + 6 := by omega
      rw [hc8]; exact ⟨_, gsT6 ⟨by omega, by omega⟩⟩
    · have hc8 : c = 8 * (c / 8) + 7 := by omega
      rw [hc8]; exact ⟨_, gsT7 ⟨by omega, by omega⟩⟩
  · by_cases h2 : c < 468
    · by_cases h3 : c % 2 = 0
      · exact ⟨_, gsS ⟨h3, by omega, h2⟩⟩
      · have hc2 : c = (c - 1) + 1 := by omega
        rw [hc2]; exact ⟨_, gsS1 ⟨by omega, by omega, by omega⟩⟩
    · rcases (show c = 468 ∨ c = 469 ∨ c = 470 ∨ c = 471 ∨ c = 472 ∨ c = 473 ∨ c = 474 ∨ c = 475 ∨ c = 476 ∨ c = 477 ∨ c = 478 ∨ c = 479 ∨ c = 480 ∨ c = 481 ∨ c = 482 ∨ c = 483 ∨ c = 484 ∨ c = 485 ∨ c = 486 ∨ c = 487 ∨ c = 488 ∨ c = 489 ∨ c = 490 ∨ c = 491 ∨ c = 492 ∨ c = 493 ∨ c = 494 by omega) with rfl | rfl | rfl | rfl | rfl | rfl | rfl | rfl | rfl | rfl | rfl | rfl | rfl | rfl | rfl | rfl | rfl | rfl | rfl | rfl | rfl | rfl | rfl | rfl | rfl | rfl | rfl
      · exact ⟨_, rfl⟩
      · exact ⟨_, rfl⟩
      · exact ⟨_, rfl⟩
      · exact ⟨_, rfl⟩
      · exact ⟨_, rfl⟩
      · exact ⟨_, rfl⟩
      · exact ⟨_, rfl⟩
      · exact ⟨_, rfl⟩
      · exact ⟨_, rfl⟩
      · exact ⟨_, rfl⟩
      · exact ⟨_, rfl⟩
      · exact ⟨_, rfl⟩
      · exact ⟨_, rfl⟩
      · exact ⟨_, rfl⟩
      · exact ⟨_, rfl⟩
      · exact ⟨_, rfl⟩
      · exact ⟨_, rfl⟩
      · exact ⟨_, rfl⟩
      · exact ⟨_, rfl⟩
      · exact ⟨_, rfl⟩
      · exact ⟨_, rfl⟩
      · exact ⟨_, rfl⟩
      · exact ⟨_, rfl⟩
      · exact ⟨_, rfl⟩
      · exact ⟨_, rfl⟩
      · exact ⟨_, rfl⟩
      · exact ⟨_, rfl⟩
theorem mid_in : ∀ c, c < 600 → 555 ≤ c → c ∈ [555, 556, 557, 558, 559, 560, 561, 562, 563, 564, 565, 566, 567, 568, 569, 570, 571, 572, 573, 574, 575, 576, 577, 578, 579, 580, 581, 582, 583, 584, 585, 586, 587, 588, 589, 590, 591, 592, 593, 594, 595, 596, 597, 598, 599] := by decide +kernel
theorem gsh_mid {L : Nat → Nat} {c : Nat} {I : Nat → Int} {B : Nat → Bool} {R : Nat → Nat} (h1 : 555 ≤ c) (h2 : c < 600) : gsh L c I B R = none := by
  have hm := mid_in c h2 h1
  simp only [List.mem_cons, List.not_mem_nil, or_false] at hm
  rcases hm with rfl | rfl | rfl | rfl | rfl | rfl | rfl | rfl | rfl | rfl | rfl | rfl | rfl | rfl | rfl | rfl | rfl | rfl | rfl | rfl | rfl | rfl | rfl | rfl | rfl | rfl | rfl | rfl | rfl | rfl | rfl | rfl | rfl | rfl | rfl | rfl | rfl | rfl | rfl | rfl | rfl | rfl | rfl | rfl | rfl <;> exact (if_neg (by decide)).trans ((if_neg (by decide)).trans ((if_neg (by decide)).trans ((if_pos (by decide)).trans (ite_self _))))
def gz (S : GS) : GS := (fun c => if c < 495 then S.1 c else fun _ => 0, fun c => if c < 495 then S.2.1 c else fun _ => false, fun c => if c < 495 then S.2.2 c else fun _ => 0)
def posR : List Nat := [0, 1, 2, 3, 4, 5, 6, 7, 8, 9, 10, 11, 12, 13, 14, 15, 16, 17, 18, 19, 20, 21, 22, 23, 24, 25, 26, 27, 28, 29, 30, 31, 32, 33, 34, 35, 36, 37, 38, 39, 40, 41, 42, 43, 44, 45, 46, 47, 48, 49, 50, 51, 52, 53, 54]
def idR : List Nat := [500, 501, 502, 503, 504, 505, 506, 507, 508, 509, 510, 511, 512, 513, 514, 515, 516, 517, 518, 519, 520, 521, 522, 523, 524, 525, 526, 527, 528, 529, 530, 531, 532, 533, 534, 535, 536, 537, 538, 539, 540, 541, 542, 543, 544, 545, 546, 547, 548, 549, 550, 551, 552, 553, 554]
theorem posR_ok : ∀ i, i < 55 → posR.getD i 0 < 55 ∧ idR.getD (posR.getD i 0) 0 = i + 500 := by decide +kernel
def LLr (L : Nat → Nat) (vs : List Nat) (M : Nat) : Nat → Nat := fun c => if c < 495 then L c else if c < 500 then M + c else if c < 555 then vs.getD (posR.getD (c - 500) 0) 0 else if c < 700 then M + c else if c = 700 then 1 else 0
theorem LLr_l {L : Nat → Nat} {vs : List Nat} {M c : Nat} (h : c < 495) : LLr L vs M c = L c := if_pos h
theorem LLr_v {L : Nat → Nat} {vs : List Nat} {M c : Nat} (h1 : 500 ≤ c) (h2 : c < 555) : LLr L vs M c = vs.getD (posR.getD (c - 500) 0) 0 := by
  unfold LLr
  rw [if_neg (by omega), if_neg (by omega), if_pos h2]
theorem LLr_m {L : Nat → Nat} {vs : List Nat} {M c : Nat} (h1 : 495 ≤ c) (h3 : c < 500 ∨ 555 ≤ c) (h2 : c < 700) : LLr L vs M c = M + c := by
  unfold LLr
  rw [if_neg (by omega)]
  by_cases h : c < 500
  · rw [if_pos h]
  · rw [if_neg h, if_neg (by omega), if_pos h2]
theorem LLr_inj {L : Nat → Nat} {vs : List Nat} {M : Nat} (hl : vs.length = 55) (hi : ∀ c c', c < 495 → c' < 495 → L c = L c' → c = c') (hn : vs.Nodup) (hd : ∀ c, c < 495 → L c ∉ vs) (hM : ∀ a ∈ vs ++ (List.range 495).map L, a < M) : ∀ c c', c < 700 → c' < 700 → LLr L vs M c = LLr L vs M c' → c = c' := by
  have hM1 : ∀ c, c < 495 → L c < M := fun c hc => hM _ (List.mem_append_right _ (List.mem_map_of_mem (List.mem_range.mpr hc)))
  have hv : ∀ c, 500 ≤ c → c < 555 → LLr L vs M c ∈ vs := fun c h1 h2 => by
    rw [LLr_v h1 h2]
    exact getD_mem (by rw [hl]; exact (posR_ok (c - 500) (by omega)).1)
  have key : ∀ c c', c < 700 → c' < 700 → LLr L vs M c = LLr L vs M c' → c < 495 → c = c' := by
    intro c c' h1 h2 e hc
    rw [LLr_l hc] at e
    by_cases a : c' < 495
    · rw [LLr_l a] at e; exact hi c c' hc a e
    · exfalso
      by_cases a2 : 500 ≤ c' ∧ c' < 555
      · exact hd c hc (e ▸ hv c' a2.1 a2.2)
      · rw [LLr_m (by omega) (by omega) h2] at e
        have := hM1 c hc; omega
  have key2 : ∀ c c', c < 700 → c' < 700 → LLr L vs M c = LLr L vs M c' → 500 ≤ c ∧ c < 555 → c = c' := by
    intro c c' h1 h2 e hc
    by_cases a : c' < 495
    · exact (key c' c h2 h1 e.symm a).symm
    · by_cases a2 : 500 ≤ c' ∧ c' < 555
      · have p1 := posR_ok (c - 500) (by omega)
        have p2 := posR_ok (c' - 500) (by omega)
        rw [LLr_v hc.1 hc.2, LLr_v a2.1 a2.2] at e
        have q := nd_inj hn (by rw [hl]; exact p1.1) (by rw [hl]; exact p2.1) e
        have r1 := p1.2
        rw [q, p2.2] at r1
        omega
      · exfalso
        have := hM _ (List.mem_append_left _ (hv c hc.1 hc.2))
        rw [e, LLr_m (by omega) (by omega) h2] at this
        omega
  intro c c' h1 h2 e
  by_cases a : c < 495
  · exact key c c' h1 h2 e a
  · by_cases a2 : 500 ≤ c ∧ c < 555
    · exact key2 c c' h1 h2 e a2
    · by_cases b : c' < 495
      · exact (key c' c h2 h1 e.symm b).symm
      · by_cases b2 : 500 ≤ c' ∧ c' < 555
        · exact (key2 c' c h2 h1 e.symm b2).symm
        · rw [LLr_m (by omega) (by omega) h1, LLr_m (by omega) (by omega) h2] at e
          omega
theorem idr_in : ∀ c, c < 555 → 500 ≤ c → c ∈ ([500, 501, 502, 503, 504, 505, 506, 507, 508, 509, 510, 511, 512, 513, 514, 515, 516, 517, 518, 519, 520, 521, 522, 523, 524, 525, 526, 527, 528, 529, 530, 531, 532, 533, 534, 535, 536, 537, 538, 539] ++ [540, 541, 542, 543, 544, 545, 546, 547, 548, 549, 550, 551, 552, 553, 554]) := by decide +kernel
set_option maxHeartbeats 16000000 in
set_option maxRecDepth 100000 in
theorem gh_ref {h h2 : XH} {L : Nat → Nat} {S : GS} {b v1 v2 v3 v4 v5 v6 v7 v8 v9 v10 v11 v12 v13 v14 v15 v16 v17 v18 v19 v20 v21 v22 v23 v24 v25 v26 v27 v28 v29 v30 v31 v32 v33 v34 v35 v36 v37 v38 v39 v40 v41 v42 v43 v44 v45 v46 v47 v48 v49 v50 v51 v52 v53 v54 : Nat} (hG : Gh L S h) (hR : ∀ c k, S.2.2 c k < 495) (hb : ∀ c, c < 495 → L c ≠ b) (hC : Cn h h2 b (xO 11 [.int 0, .int 0, .int 0, .ref v1, .ref v2, .int 0, .ref v3, .int 0, .ref v4, .int 0, .ref v5, .ref v6, .ref v7, .int 0, .ref v8, .int 0, .int 0, .ref v9, .ref v10, .ref v11, .int 0, .ref v12, .int 0, .ref v13, .ref v14, .ref v15, .ref v16, .ref v17, .ref v18, .int 0, .int 0, .int 0, .int 0, .ref v19, .ref v20, .ref v21, .int 0, .ref v22, .int 0, .ref v23, .ref v24, .ref v25, .ref v26, .ref v27, .int 0, .int 0, .int 0, .ref v28, .ref v29, .ref v30, .ref v31, .ref v32, .ref v33, .ref v34, .int 0, .ref v35, .ref v36, .int 0, .ref v37, .ref v38, .ref v39, .ref v40, .int 0, .int 0, .int 0, .int 0, .int 0, .ref v41, .ref v42, .ref v43, .ref v44, .ref v45, .ref v46, .ref v47, .ref v48, .int 0, .int 0, .ref v49, .ref v50, .int 0, .ref v51, .int 0, .ref v52, .int 0, .ref v53, .ref v54]) [(v1, xI 0 295728 xz), (v2, xI 0 48 xz), (v3, xI 0 400 xz), (v4, xI 0 40000 xz), (v5, xI 0 128 xz), (v6, xI 0 128 xz), (v7, xI 0 1000 xz), (v8, xI 0 1000 xz), (v9, xL 81 (fun k => gl_standard.getD k 0)), (v10, xI 0 24 xz), (v11, xI 0 16 xz), (v12, xI 0 13 xz), (v13, xI 0 16 xz), (v14, xI 0 16 xz), (v15, xI 0 16 xz), (v16, xI 0 80000 xz), (v17, xI 0 2 xz), (v18, xI 0 1000 xz), (v19, xI 0 101 xz), (v20, xI 0 101 xz), (v21, xI 3 101 xz), (v22, xL 6 (fun k => gl_ops.getD k 0)), (v23, xI 0 10201 xz), (v24, xI 3 101 xz), (v25, xI 0 16 xz), (v26, xI 0 16 xz), (v27, xI 0 16 xz), (v28, xI 0 16 xz), (v29, xI 0 16 xz), (v30, xI 0 16 xz), (v31, xI 0 16 xz), (v32, xI 0 16 xz), (v33, xI 0 16 xz), (v34, xI 0 16 xz), (v35, xI 0 402 xz), (v36, xI 0 120000 xz), (v37, xI 0 402 xz), (v38, xI 0 120000 xz), (v39, xL 16 (fun k => gl_words.getD k 0)), (v40, xL 7 (fun k => gl_kinds.getD k 0)), (v41, xI 0 500 xz), (v42, xI 0 500 xz), (v43, xI 0 500 xz), (v44, xI 0 500 xz), (v45, xI 0 500 xz), (v46, xI 0 500 xz), (v47, xI 0 500 xz), (v48, xI 3 500 xz), (v49, xI 0 16 xz), (v50, xI 0 16 xz), (v51, xI 0 220000 xz), (v52, xI 0 1000 xz), (v53, xI 0 8 xz), (v54, xI 0 8 xz)]) : ∃ L1, Gh L1 (gz S) h2 ∧ (∀ c, c < 495 → L1 c = L c) ∧ L1 500 = b ∧ L1 700 = 1 ∧ L1 701 = 0 := by
  obtain ⟨M, hM⟩ := nd_le ([b, v1, v2, v3, v4, v5, v6, v7, v8, v9, v10, v11, v12, v13, v14, v15, v16, v17, v18, v19, v20, v21, v22, v23, v24, v25, v26, v27, v28, v29, v30, v31, v32, v33, v34, v35, v36, v37, v38, v39, v40, v41, v42, v43, v44, v45, v46, v47, v48, v49, v50, v51, v52, v53, v54] ++ (List.range 495).map L)
  have hnd : ([b, v1, v2, v3, v4, v5, v6, v7, v8, v9, v10, v11, v12, v13, v14, v15, v16, v17, v18, v19, v20, v21, v22, v23, v24, v25, v26, v27, v28, v29, v30, v31, v32, v33, v34, v35, v36, v37, v38, v39, v40, v41, v42, v43, v44, v45, v46, v47, v48, v49, v50, v51, v52, v53, v54]).Nodup := hC.1
  have hsome : ∀ c, c < 495 → ∃ e, h (L c) = some e := fun c hc => by
    obtain ⟨e, he⟩ := gsh_some (L := L) (I := S.1 c) (B := S.2.1 c) (R := S.2.2 c) hc
    exact ⟨e, hG.2 c (by omega) e he⟩
  have hne : ∀ c, c < 495 → ∀ p ∈ [(v1, xI 0 295728 xz), (v2, xI 0 48 xz), (v3, xI 0 400 xz), (v4, xI 0 40000 xz), (v5, xI 0 128 xz), (v6, xI 0 128 xz), (v7, xI 0 1000 xz), (v8, xI 0 1000 xz), (v9, xL 81 (fun k => gl_standard.getD k 0)), (v10, xI 0 24 xz), (v11, xI 0 16 xz), (v12, xI 0 13 xz), (v13, xI 0 16 xz), (v14, xI 0 16 xz), (v15, xI 0 16 xz), (v16, xI 0 80000 xz), (v17, xI 0 2 xz), (v18, xI 0 1000 xz), (v19, xI 0 101 xz), (v20, xI 0 101 xz), (v21, xI 3 101 xz), (v22, xL 6 (fun k => gl_ops.getD k 0)), (v23, xI 0 10201 xz), (v24, xI 3 101 xz), (v25, xI 0 16 xz), (v26, xI 0 16 xz), (v27, xI 0 16 xz), (v28, xI 0 16 xz), (v29, xI 0 16 xz), (v30, xI 0 16 xz), (v31, xI 0 16 xz), (v32, xI 0 16 xz), (v33, xI 0 16 xz), (v34, xI 0 16 xz), (v35, xI 0 402 xz), (v36, xI 0 120000 xz), (v37, xI 0 402 xz), (v38, xI 0 120000 xz), (v39, xL 16 (fun k => gl_words.getD k 0)), (v40, xL 7 (fun k => gl_kinds.getD k 0)), (v41, xI 0 500 xz), (v42, xI 0 500 xz), (v43, xI 0 500 xz), (v44, xI 0 500 xz), (v45, xI 0 500 xz), (v46, xI 0 500 xz), (v47, xI 0 500 xz), (v48, xI 3 500 xz), (v49, xI 0 16 xz), (v50, xI 0 16 xz), (v51, xI 0 220000 xz), (v52, xI 0 1000 xz), (v53, xI 0 8 xz), (v54, xI 0 8 xz)], L c ≠ p.1 := fun c hc p hp e => by
    obtain ⟨x, hx⟩ := hsome c hc
    rw [e, hC.2.2.1 p hp] at hx
    cases hx
  have hd : ∀ c, c < 495 → L c ∉ [b, v1, v2, v3, v4, v5, v6, v7, v8, v9, v10, v11, v12, v13, v14, v15, v16, v17, v18, v19, v20, v21, v22, v23, v24, v25, v26, v27, v28, v29, v30, v31, v32, v33, v34, v35, v36, v37, v38, v39, v40, v41, v42, v43, v44, v45, v46, v47, v48, v49, v50, v51, v52, v53, v54] := fun c hc hm => by
    rcases List.mem_cons.mp hm with e | hm
    · exact hb c hc e
    · obtain ⟨p, hp, e⟩ := List.mem_map.mp (show L c ∈ ([(v1, xI 0 295728 xz), (v2, xI 0 48 xz), (v3, xI 0 400 xz), (v4, xI 0 40000 xz), (v5, xI 0 128 xz), (v6, xI 0 128 xz), (v7, xI 0 1000 xz), (v8, xI 0 1000 xz), (v9, xL 81 (fun k => gl_standard.getD k 0)), (v10, xI 0 24 xz), (v11, xI 0 16 xz), (v12, xI 0 13 xz), (v13, xI 0 16 xz), (v14, xI 0 16 xz), (v15, xI 0 16 xz), (v16, xI 0 80000 xz), (v17, xI 0 2 xz), (v18, xI 0 1000 xz), (v19, xI 0 101 xz), (v20, xI 0 101 xz), (v21, xI 3 101 xz), (v22, xL 6 (fun k => gl_ops.getD k 0)), (v23, xI 0 10201 xz), (v24, xI 3 101 xz), (v25, xI 0 16 xz), (v26, xI 0 16 xz), (v27, xI 0 16 xz), (v28, xI 0 16 xz), (v29, xI 0 16 xz), (v30, xI 0 16 xz), (v31, xI 0 16 xz), (v32, xI 0 16 xz), (v33, xI 0 16 xz), (v34, xI 0 16 xz), (v35, xI 0 402 xz), (v36, xI 0 120000 xz), (v37, xI 0 402 xz), (v38, xI 0 120000 xz), (v39, xL 16 (fun k => gl_words.getD k 0)), (v40, xL 7 (fun k => gl_kinds.getD k 0)), (v41, xI 0 500 xz), (v42, xI 0 500 xz), (v43, xI 0 500 xz), (v44, xI 0 500 xz), (v45, xI 0 500 xz), (v46, xI 0 500 xz), (v47, xI 0 500 xz), (v48, xI 3 500 xz), (v49, xI 0 16 xz), (v50, xI 0 16 xz), (v51, xI 0 220000 xz), (v52, xI 0 1000 xz), (v53, xI 0 8 xz), (v54, xI 0 8 xz)]).map Prod.fst from hm)
      exact hne c hc p hp e.symm
  refine ⟨LLr L [b, v1, v2, v3, v4, v5, v6, v7, v8, v9, v10, v11, v12, v13, v14, v15, v16, v17, v18, v19, v20, v21, v22, v23, v24, v25, v26, v27, v28, v29, v30, v31, v32, v33, v34, v35, v36, v37, v38, v39, v40, v41, v42, v43, v44, v45, v46, v47, v48, v49, v50, v51, v52, v53, v54] M, ⟨LLr_inj rfl (fun c c' h1 h2 => hG.1 c c' (by omega) (by omega)) hnd hd hM, ?_⟩, fun c hc => LLr_l hc, rfl, rfl, rfl⟩
  have hnew : ∀ c ∈ ([500, 501, 502, 503, 504, 505, 506, 507, 508, 509, 510, 511, 512, 513, 514, 515, 516, 517, 518, 519, 520, 521, 522, 523, 524, 525, 526, 527, 528, 529, 530, 531, 532, 533, 534, 535, 536, 537, 538, 539] ++ [540, 541, 542, 543, 544, 545, 546, 547, 548, 549, 550, 551, 552, 553, 554]), (∃ e, gsh (LLr L [b, v1, v2, v3, v4, v5, v6, v7, v8, v9, v10, v11, v12, v13, v14, v15, v16, v17, v18, v19, v20, v21, v22, v23, v24, v25, v26, v27, v28, v29, v30, v31, v32, v33, v34, v35, v36, v37, v38, v39, v40, v41, v42, v43, v44, v45, v46, v47, v48, v49, v50, v51, v52, v53, v54] M) c ((gz S).1 c) ((gz S).2.1 c) ((gz S).2.2 c) = some e ∧ h2 (LLr L [b, v1, v2, v3, v4, v5, v6, v7, v8, v9, v10, v11, v12, v13, v14, v15, v16, v17, v18, v19, v20, v21, v22, v23, v24, v25, v26, v27, v28, v29, v30, v31, v32, v33, v34, v35, v36, v37, v38, v39, v40, v41, v42, v43, v44, v45, v46, v47, v48, v49, v50, v51, v52, v53, v54] M c) = some e) := by
    intro c hc
    simp only [List.mem_append, List.mem_cons, List.not_mem_nil, or_false, or_assoc] at hc
    rcases hc with rfl | rfl | rfl | rfl | rfl | rfl | rfl | rfl | rfl | rfl | rfl | rfl | rfl | rfl | rfl | rfl | rfl | rfl | rfl | rfl | rfl | rfl | rfl | rfl | rfl | rfl | rfl | rfl | rfl | rfl | rfl | rfl | rfl | rfl | rfl | rfl | rfl | rfl | rfl | rfl | rfl | rfl | rfl | rfl | rfl | rfl | rfl | rfl | rfl | rfl | rfl | rfl | rfl | rfl | rfl
    · exact ⟨_, gs_500 rfl, hC.2.1⟩
    · exact ⟨_, gs_501 rfl, hC.2.2.2.1 _ (List.mem_of_getElem? (i := 0) rfl)⟩
    · exact ⟨_, gs_502 rfl, hC.2.2.2.1 _ (List.mem_of_getElem? (i := 1) rfl)⟩
    · exact ⟨_, gs_503 rfl, hC.2.2.2.1 _ (List.mem_of_getElem? (i := 2) rfl)⟩
    · exact ⟨_, gs_504 rfl, hC.2.2.2.1 _ (List.mem_of_getElem? (i := 3) rfl)⟩
    · exact ⟨_, gs_505 rfl, hC.2.2.2.1 _ (List.mem_of_getElem? (i := 4) rfl)⟩
    · exact ⟨_, gs_506 rfl, hC.2.2.2.1 _ (List.mem_of_getElem? (i := 5) rfl)⟩
    · exact ⟨_, gs_507 rfl, hC.2.2.2.1 _ (List.mem_of_getElem? (i := 6) rfl)⟩
    · exact ⟨_, gs_508 rfl, hC.2.2.2.1 _ (List.mem_of_getElem? (i := 7) rfl)⟩
    · exact ⟨_, gs_509 rfl, hC.2.2.2.1 _ (List.mem_of_getElem? (i := 8) rfl)⟩
    · exact ⟨_, gs_510 rfl, hC.2.2.2.1 _ (List.mem_of_getElem? (i := 9) rfl)⟩
    · exact ⟨_, gs_511 rfl, hC.2.2.2.1 _ (List.mem_of_getElem? (i := 10) rfl)⟩
    · exact ⟨_, gs_512 rfl, hC.2.2.2.1 _ (List.mem_of_getElem? (i := 11) rfl)⟩
    · exact ⟨_, gs_513 rfl, hC.2.2.2.1 _ (List.mem_of_getElem? (i := 12) rfl)⟩
    · exact ⟨_, gs_514 rfl, hC.2.2.2.1 _ (List.mem_of_getElem? (i := 13) rfl)⟩
    · exact ⟨_, gs_515 rfl, hC.2.2.2.1 _ (List.mem_of_getElem? (i := 14) rfl)⟩
    · exact ⟨_, gs_516 rfl, hC.2.2.2.1 _ (List.mem_of_getElem? (i := 15) rfl)⟩
    · exact ⟨_, gs_517 rfl, hC.2.2.2.1 _ (List.mem_of_getElem? (i := 16) rfl)⟩
    · exact ⟨_, gs_518 rfl, hC.2.2.2.1 _ (List.mem_of_getElem? (i := 17) rfl)⟩
    · exact ⟨_, gs_519 rfl, hC.2.2.2.1 _ (List.mem_of_getElem? (i := 18) rfl)⟩
    · exact ⟨_, gs_520 rfl, hC.2.2.2.1 _ (List.mem_of_getElem? (i := 19) rfl)⟩
    · exact ⟨_, gs_521 rfl, hC.2.2.2.1 _ (List.mem_of_getElem? (i := 20) rfl)⟩
    · exact ⟨_, gs_522 rfl, hC.2.2.2.1 _ (List.mem_of_getElem? (i := 21) rfl)⟩
    · exact ⟨_, gs_523 rfl, hC.2.2.2.1 _ (List.mem_of_getElem? (i := 22) rfl)⟩
    · exact ⟨_, gs_524 rfl, hC.2.2.2.1 _ (List.mem_of_getElem? (i := 23) rfl)⟩
    · exact ⟨_, gs_525 rfl, hC.2.2.2.1 _ (List.mem_of_getElem? (i := 24) rfl)⟩
    · exact ⟨_, gs_526 rfl, hC.2.2.2.1 _ (List.mem_of_getElem? (i := 25) rfl)⟩
    · exact ⟨_, gs_527 rfl, hC.2.2.2.1 _ (List.mem_of_getElem? (i := 26) rfl)⟩
    · exact ⟨_, gs_528 rfl, hC.2.2.2.1 _ (List.mem_of_getElem? (i := 27) rfl)⟩
    · exact ⟨_, gs_529 rfl, hC.2.2.2.1 _ (List.mem_of_getElem? (i := 28) rfl)⟩
    · exact ⟨_, gs_530 rfl, hC.2.2.2.1 _ (List.mem_of_getElem? (i := 29) rfl)⟩
    · exact ⟨_, gs_531 rfl, hC.2.2.2.1 _ (List.mem_of_getElem? (i := 30) rfl)⟩
    · exact ⟨_, gs_532 rfl, hC.2.2.2.1 _ (List.mem_of_getElem? (i := 31) rfl)⟩
    · exact ⟨_, gs_533 rfl, hC.2.2.2.1 _ (List.mem_of_getElem? (i := 32) rfl)⟩
    · exact ⟨_, gs_534 rfl, hC.2.2.2.1 _ (List.mem_of_getElem? (i := 33) rfl)⟩
    · exact ⟨_, gs_535 rfl, hC.2.2.2.1 _ (List.mem_of_getElem? (i := 34) rfl)⟩
    · exact ⟨_, gs_536 rfl, hC.2.2.2.1 _ (List.mem_of_getElem? (i := 35) rfl)⟩
    · exact ⟨_, gs_537 rfl, hC.2.2.2.1 _ (List.mem_of_getElem? (i := 36) rfl)⟩
    · exact ⟨_, gs_538 rfl, hC.2.2.2.1 _ (List.mem_of_getElem? (i := 37) rfl)⟩
    · exact ⟨_, gs_539 rfl, hC.2.2.2.1 _ (List.mem_of_getElem? (i := 38) rfl)⟩
    · exact ⟨_, gs_540 rfl, hC.2.2.2.1 _ (List.mem_of_getElem? (i := 39) rfl)⟩
    · exact ⟨_, gs_541 rfl, hC.2.2.2.1 _ (List.mem_of_getElem? (i := 40) rfl)⟩
    · exact ⟨_, gs_542 rfl, hC.2.2.2.1 _ (List.mem_of_getElem? (i := 41) rfl)⟩
    · exact ⟨_, gs_543 rfl, hC.2.2.2.1 _ (List.mem_of_getElem? (i := 42) rfl)⟩
    · exact ⟨_, gs_544 rfl, hC.2.2.2.1 _ (List.mem_of_getElem? (i := 43) rfl)⟩
    · exact ⟨_, gs_545 rfl, hC.2.2.2.1 _ (List.mem_of_getElem? (i := 44) rfl)⟩
    · exact ⟨_, gs_546 rfl, hC.2.2.2.1 _ (List.mem_of_getElem? (i := 45) rfl)⟩
    · exact ⟨_, gs_547 rfl, hC.2.2.2.1 _ (List.mem_of_getElem? (i := 46) rfl)⟩
    · exact ⟨_, gs_548 rfl, hC.2.2.2.1 _ (List.mem_of_getElem? (i := 47) rfl)⟩
    · exact ⟨_, gs_549 rfl, hC.2.2.2.1 _ (List.mem_of_getElem? (i := 48) rfl)⟩
    · exact ⟨_, gs_550 rfl, hC.2.2.2.1 _ (List.mem_of_getElem? (i := 49) rfl)⟩
    · exact ⟨_, gs_551 rfl, hC.2.2.2.1 _ (List.mem_of_getElem? (i := 50) rfl)⟩
    · exact ⟨_, gs_552 rfl, hC.2.2.2.1 _ (List.mem_of_getElem? (i := 51) rfl)⟩
    · exact ⟨_, gs_553 rfl, hC.2.2.2.1 _ (List.mem_of_getElem? (i := 52) rfl)⟩
    · exact ⟨_, gs_554 rfl, hC.2.2.2.1 _ (List.mem_of_getElem? (i := 53) rfl)⟩
  intro c hc x hx
  by_cases h1 : c < 495
  · have e1 : (gz S).1 c = S.1 c := if_pos h1
    have e2 : (gz S).2.1 c = S.2.1 c := if_pos h1
    have e3 : (gz S).2.2 c = S.2.2 c := if_pos h1
    rw [e1, e2, e3, gsh_low (L := L) (fun c hc => LLr_l hc) (hR c) h1] at hx
    rw [LLr_l h1, hC.2.2.2.2 (L c) (hb c h1) (hne c h1)]
    exact hG.2 c hc x hx
  · by_cases h3 : 500 ≤ c ∧ c < 555
    · obtain ⟨e, h4, h5⟩ := hnew c (idr_in c h3.2 h3.1)
      rw [h4] at hx
      cases hx
      exact h5
    · exfalso
      by_cases h4 : c < 500
      · unfold gsh at hx
        rw [if_neg (by omega), if_neg (by omega), if_pos h4] at hx
        rcases (show c = 495 ∨ c = 496 ∨ c = 497 ∨ c = 498 ∨ c = 499 by omega) with rfl | rfl | rfl | rfl | rfl <;> cases hx
      · by_cases h5 : c < 600
        · rw [gsh_mid (by omega) h5] at hx
          cases hx
        · unfold gsh at hx
          rw [if_neg (by omega), if_neg (by omega), if_neg h4, if_neg h5] at hx
          by_cases h6 : c = 600
          · rw [if_pos h6, if_neg (show ¬ LLr L [b, v1, v2, v3, v4, v5, v6, v7, v8, v9, v10, v11, v12, v13, v14, v15, v16, v17, v18, v19, v20, v21, v22, v23, v24, v25, v26, v27, v28, v29, v30, v31, v32, v33, v34, v35, v36, v37, v38, v39, v40, v41, v42, v43, v44, v45, v46, v47, v48, v49, v50, v51, v52, v53, v54] M 701 = 1 from fun h9 => absurd h9 (show ¬ (0 : Nat) = 1 by decide))] at hx
            cases hx
          · rw [if_neg h6] at hx
            cases hx

