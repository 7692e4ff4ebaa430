/-! THE LAW FROM ITS ENTRY: the String constants -/
abbrev XQ : Type := String × Nat × Nat × String × Nat
def xsq : List XQ := [("Treeletter$Scribe", 105, 0, "", 0), ("Treeletter$Scribe", 107, 1, "", 0), ("Treeletter$Scribe", 109, 2, "", 0), ("Treeletter$Scribe", 111, 3, "", 0), ("Treeletter$Scribe", 113, 4, "", 0), ("Treeletter$Scribe", 115, 5, "", 0), ("Treeletter$Scribe", 117, 6, "", 0), ("Treeletter$Scribe", 119, 7, "", 0), ("Treeletter$Scribe", 121, 8, "", 0), ("Treeletter$Scribe", 123, 9, "", 0), ("Treeletter$Scribe", 125, 10, "", 0), ("Treeletter$Scribe", 127, 11, "", 0), ("Treeletter$Reader", 100, 12, "", 0), ("Treeletter$Reader", 109, 13, "", 0), ("Treeletter$Reader", 111, 14, "", 0), ("Treeletter$Scribe", 15, 12, "", 0), ("Treeletter$Reader", 100, 99, "Treeletter$Scribe", 15), ("Treeletter$Scribe", 27, 13, "", 0), ("Treeletter$Reader", 109, 99, "Treeletter$Scribe", 27), ("Treeletter$Scribe", 29, 14, "", 0), ("Treeletter$Reader", 111, 99, "Treeletter$Scribe", 29), ("Treeletter$Scribe", 100, 15, "", 0), ("Treeletter$Scribe", 90, 16, "", 0), ("Treeletter$Scribe", 92, 17, "", 0), ("Treeletter$Checker", 84, 31, "", 0), ("Treeletter$Checker", 86, 32, "", 0), ("Treeletter$Checker", 88, 33, "", 0), ("Treeletter$Checker", 90, 34, "", 0), ("Treeletter$Checker", 92, 35, "", 0), ("Treeletter$Checker", 94, 36, "", 0), ("Treeletter$Checker", 96, 37, "", 0), ("Treeletter$Checker", 98, 38, "", 0), ("Treeletter$Checker", 100, 39, "", 0), ("Treeletter$Checker", 102, 40, "", 0), ("Treeletter$Checker", 104, 41, "", 0), ("Treeletter$Checker", 106, 42, "", 0), ("Treeletter$Checker", 108, 43, "", 0), ("Treeletter$Checker", 110, 44, "", 0), ("Treeletter$Checker", 112, 45, "", 0), ("Treeletter$Checker", 228, 46, "", 0), ("Treeletter$Checker", 114, 47, "", 0), ("Treeletter$Checker", 116, 48, "", 0), ("Treeletter$Checker", 118, 49, "", 0), ("Treeletter$Checker", 120, 50, "", 0), ("Treeletter$Checker", 122, 51, "", 0), ("Treeletter$Checker", 124, 52, "", 0), ("Treeletter$Checker", 200, 53, "", 0), ("Treeletter$Orders", 97, 25, "", 0), ("Treeletter$Orders", 140, 22, "", 0), ("Treeletter$Orders", 156, 23, "", 0), ("Treeletter$Orders", 164, 24, "", 0), ("Treeletter$Orders", 106, 26, "", 0), ("Treeletter$Orders", 77, 21, "", 0), ("Treeletter$Editor", 175, 22, "", 0), ("Treeletter$Orders", 140, 99, "Treeletter$Editor", 175), ("Treeletter$Editor", 181, 23, "", 0), ("Treeletter$Orders", 156, 99, "Treeletter$Editor", 181), ("Treeletter$Editor", 182, 27, "", 0), ("Treeletter$Editor", 184, 24, "", 0), ("Treeletter$Orders", 164, 99, "Treeletter$Editor", 184), ("Treeletter$Editor", 97, 25, "", 0), ("Treeletter$Orders", 97, 99, "Treeletter$Editor", 97), ("Treeletter$Editor", 157, 26, "", 0), ("Treeletter$Orders", 106, 99, "Treeletter$Editor", 157), ("Treeletter$Editor", 195, 28, "", 0), ("Treeletter$Editor", 143, 20, "", 0), ("Treeletter$Editor", 84, 21, "", 0), ("Treeletter$Orders", 77, 99, "Treeletter$Editor", 84), ("Treeletter$Editor", 204, 29, "", 0), ("Treeletter$Editor", 209, 30, "", 0), ("Treeletter$Finder", 68, 18, "", 0), ("Treeletter$Finder", 80, 19, "", 0)]
def sblk : XQ → List Cond := fun (own, k, i, o2, k2) => if i = 99 then [.eq (.string own k) (.string o2 k2)] else [.exactly (.string own k) "java/lang/String", .eq (.field (.string own k) "java/lang/String" "coder" "B") (.int 0), .arrayOf (.field (.string own k) "java/lang/String" "value" "[B") .byte, .eq (.length (.field (.string own k) "java/lang/String" "value" "[B")) (.int (Int32.ofNat (xlen.getD i 0)))] ++ (List.range (xlen.getD i 0)).map (fun j => .eq (.elem (.field (.string own k) "java/lang/String" "value" "[B") (.int (Int32.ofNat j))) (.int ((xbyt.getD i []).getD j 0)))
set_option maxRecDepth 100000 in
theorem sdrop : (flatC (Jvm.Cond.and given_1 narrow_1)).drop 24 = xsq.flatMap sblk := by decide +kernel
theorem s_cond {args : Array Value} {s : State} (hgv : (Jvm.Cond.and given_1 narrow_1).before args s = true) {q : XQ} (hq : q ∈ xsq) {c : Cond} (hc : c ∈ sblk q) : c.before args s = true :=
  flat_of_before _ hgv _ (List.mem_of_mem_drop (by rw [sdrop]; exact List.mem_flatMap.mpr ⟨q, hq, hc⟩))
def xrep : List (String × Nat) := [("Treeletter$Scribe", 105), ("Treeletter$Scribe", 107), ("Treeletter$Scribe", 109), ("Treeletter$Scribe", 111), ("Treeletter$Scribe", 113), ("Treeletter$Scribe", 115), ("Treeletter$Scribe", 117), ("Treeletter$Scribe", 119), ("Treeletter$Scribe", 121), ("Treeletter$Scribe", 123), ("Treeletter$Scribe", 125), ("Treeletter$Scribe", 127), ("Treeletter$Reader", 100), ("Treeletter$Reader", 109), ("Treeletter$Reader", 111), ("Treeletter$Scribe", 100), ("Treeletter$Scribe", 90), ("Treeletter$Scribe", 92), ("Treeletter$Finder", 68), ("Treeletter$Finder", 80), ("Treeletter$Editor", 143), ("Treeletter$Orders", 77), ("Treeletter$Orders", 140), ("Treeletter$Orders", 156), ("Treeletter$Orders", 164), ("Treeletter$Orders", 97), ("Treeletter$Orders", 106), ("Treeletter$Editor", 182), ("Treeletter$Editor", 195), ("Treeletter$Editor", 204), ("Treeletter$Editor", 209), ("Treeletter$Checker", 84), ("Treeletter$Checker", 86), ("Treeletter$Checker", 88), ("Treeletter$Checker", 90), ("Treeletter$Checker", 92), ("Treeletter$Checker", 94), ("Treeletter$Checker", 96), ("Treeletter$Checker", 98), ("Treeletter$Checker", 100), ("Treeletter$Checker", 102), ("Treeletter$Checker", 104), ("Treeletter$Checker", 106), ("Treeletter$Checker", 108), ("Treeletter$Checker", 110), ("Treeletter$Checker", 112), ("Treeletter$Checker", 228), ("Treeletter$Checker", 114), ("Treeletter$Checker", 116), ("Treeletter$Checker", 118), ("Treeletter$Checker", 120), ("Treeletter$Checker", 122), ("Treeletter$Checker", 124), ("Treeletter$Checker", 200)]
theorem xrep_in : ∀ i, i < 54 → (((xrep.getD i ("", 0)).1, (xrep.getD i ("", 0)).2, i, "", 0) : XQ) ∈ xsq := by decide +kernel
theorem s_one {args : Array Value} {s : State} {A : Nat → Prop} (hgv : (Jvm.Cond.and given_1 narrow_1).before args s = true) (hA : ∀ a : Nat, a < s.heap.size → ¬ A a) {own : String} {k i : Nat} (hi : i < 54) (hq : ((own, k, i, "", 0) : XQ) ∈ xsq) : ∃ p : Nat × Nat, (va_O "java/lang/String" p.1 A s s.heap ∧ va_OF "java/lang/String" "coder" "B" (.int 0) p.1 A s s.heap ∧ va_OF "java/lang/String" "value" "[B" (.ref p.2) p.1 A s s.heap ∧ va_T .byte p.2 (xlen.getD i 0) (fun j => .int ((xbyt.getD i []).getD j 0)) A s s.heap) ∧ (Term.string own k).eval args s none [] s = some (.ref p.1) := by
  have hlen := xlen_le i hi
  have hb : sblk (own, k, i, "", 0) = [.exactly (.string own k) "java/lang/String", .eq (.field (.string own k) "java/lang/String" "coder" "B") (.int 0), .arrayOf (.field (.string own k) "java/lang/String" "value" "[B") .byte, .eq (.length (.field (.string own k) "java/lang/String" "value" "[B")) (.int (Int32.ofNat (xlen.getD i 0)))] ++ (List.range (xlen.getD i 0)).map (fun j => .eq (.elem (.field (.string own k) "java/lang/String" "value" "[B") (.int (Int32.ofNat j))) (.int ((xbyt.getD i []).getD j 0))) := if_neg (by omega)
  obtain ⟨adK, adV, hS, hE⟩ := vk_Sof (N := 1) (tm := fun _ => .string own k) (len := [xlen.getD i 0]) (byt := [xbyt.getD i []]) (A := A)
    (fun j hj => by obtain rfl : j = 0 := by omega
                    show xlen.getD i 0 < 2 ^ 31; omega)
    (fun j hj => s_cond hgv hq (by rw [hb]; exact List.mem_of_getElem? (i := 0) rfl)) (fun j hj => s_cond hgv hq (by rw [hb]; exact List.mem_of_getElem? (i := 1) rfl)) (fun j hj => s_cond hgv hq (by rw [hb]; exact List.mem_of_getElem? (i := 2) rfl))
    (fun j hj => by obtain rfl : j = 0 := by omega
                    exact s_cond hgv hq (by rw [hb]; exact List.mem_of_getElem? (i := 3) rfl))
    (fun j hj j2 hj2 => by
      obtain rfl : j = 0 := by omega
      exact s_cond hgv hq (by rw [hb]; exact List.mem_append_right _ (List.mem_map.mpr ⟨j2, List.mem_range.mpr hj2, rfl⟩)))
    (fun a b ha hb hab => absurd (by omega) hab) hA
  exact ⟨(adK 0, adV 0), hS.1 0 (by omega), hE 0 (by omega)⟩
theorem xbyt_ne : ∀ i, i < 54 → ∀ j, j < 54 → xlen.getD i 0 = xlen.getD j 0 → (∀ k, k < xlen.getD i 0 → (xbyt.getD i []).getD k 0 = (xbyt.getD j []).getD k 0) → i = j := by decide +kernel
theorem va_OF_inj {o n d : String} {a b t : Nat} {A : Nat → Prop} {U : State} {H : Heap} (h : va_OF o n d (.ref a) t A U H) (g : va_OF o n d (.ref b) t A U H) : a = b := by
  obtain ⟨cf, k, i, f, cell, h1, h2, h3, h4, h5, h6⟩ := h
  obtain ⟨cf', k', i', f', cell', g1, g2, g3, g4, g5, g6⟩ := g
  rw [h1] at g1
  cases g1
  rw [h3] at g3
  cases g3
  rw [h5] at g5
  cases g5
  rfl
theorem va_T_inj {ty : FieldType} {t N M : Nat} {f g : Nat → Value} {A : Nat → Prop} {U : State} {H : Heap} (hN : N < 1000) (hM : M < 1000) (h : va_T ty t N f A U H) (k : va_T ty t M g A U H) : N = M ∧ ∀ j, j < N → f j = g j := by
  obtain ⟨cell, h1, h2, h3, h4, h5, h6, h7⟩ := h
  obtain ⟨cell', k1, k2, k3, k4, k5, k6, k7⟩ := k
  rw [h1] at k1
  cases k1
  have e : N = M := by
    have := h5.symm.trans k5
    have e1 := congrArg Int32.toInt this
    rw [Int32.toInt_ofNat_of_lt (by omega), Int32.toInt_ofNat_of_lt (by omega)] at e1
    omega
  subst e
  refine ⟨rfl, fun j hj => ?_⟩
  exact Option.some.inj ((h6 j hj).symm.trans (k6 j hj))
theorem s_all {args : Array Value} {s : State} {A : Nat → Prop} (hgv : (Jvm.Cond.and given_1 narrow_1).before args s = true) (hA : ∀ a : Nat, a < s.heap.size → ¬ A a) : ∃ adK adV : Nat → Nat, vk_S xN xlen xbyt adK adV A s s.heap ∧ ∀ i, i < 54 → (Term.string (xrep.getD i ("", 0)).1 (xrep.getD i ("", 0)).2).eval args s none [] s = some (.ref (adK i)) := by
  have h0 : ∀ i : Nat, ∃ p : Nat × Nat, i < 54 → (va_O "java/lang/String" p.1 A s s.heap ∧ va_OF "java/lang/String" "coder" "B" (.int 0) p.1 A s s.heap ∧ va_OF "java/lang/String" "value" "[B" (.ref p.2) p.1 A s s.heap ∧ va_T .byte p.2 (xlen.getD i 0) (fun j => .int ((xbyt.getD i []).getD j 0)) A s s.heap) ∧ (Term.string (xrep.getD i ("", 0)).1 (xrep.getD i ("", 0)).2).eval args s none [] s = some (.ref p.1) := by
    intro i
    by_cases hi : i < 54
    · obtain ⟨p, hp⟩ := s_one hgv hA hi (xrep_in i hi)
      exact ⟨p, fun _ => hp⟩
    · exact ⟨(0, 0), fun h => absurd h hi⟩
  obtain ⟨f, hf⟩ := Classical.axiomOfChoice h0
  refine ⟨fun i => (f i).1, fun i => (f i).2, ⟨fun i hi => (hf i hi).1, fun i j hi hj e => ?_⟩, fun i hi => (hf i hi).2⟩
  have h1 := (hf i hi).1
  have h2 := (hf j hj).1
  have e : (f i).1 = (f j).1 := e
  rw [← e] at h2
  have ev := va_OF_inj h1.2.2.1 h2.2.2.1
  rw [← ev] at h2
  obtain ⟨e3, e4⟩ := va_T_inj (by have := xlen_le i hi; omega) (by have := xlen_le j hj; omega) h1.2.2.2 h2.2.2.2
  refine xbyt_ne i hi j hj e3 (fun k hk => ?_)
  exact Value.int.inj (e4 k hk)
theorem eq_refs {args : Array Value} {s : State} {X Y : Term} {a b : Nat} (h : (Cond.eq X Y).before args s = true) (hx : X.eval args s none [] s = some (.ref a)) (hy : Y.eval args s none [] s = some (.ref b)) : a = b := by
  simp only [Cond.before, Cond.holds, Cond.value, hx, hy] at h
  simpa using h
set_option maxHeartbeats 4000000 in
set_option maxRecDepth 100000 in
theorem s_site {args : Array Value} {s : State} {A : Nat → Prop} (hgv : (Jvm.Cond.and given_1 narrow_1).before args s = true) (hA : ∀ a : Nat, a < s.heap.size → ¬ A a) (hts : ∀ w ∈ lw_tbl, w.before args s = true) {adK : Nat → Nat} (hE : ∀ i, i < 54 → (Term.string (xrep.getD i ("", 0)).1 (xrep.getD i ("", 0)).2).eval args s none [] s = some (.ref (adK i))) : ∀ q ∈ xstr, vk_R q.1 q.2.1 q.2.2.1 (adK q.2.2.2) s := by
  intro q hq
  unfold xstr at hq
  simp only [List.mem_cons, List.not_mem_nil, or_false] at hq
  rcases hq with rfl | rfl | rfl | rfl | rfl | rfl | rfl | rfl | rfl | rfl | rfl | rfl | rfl | rfl | rfl | rfl | rfl | rfl | rfl | rfl | rfl | rfl | rfl | rfl | rfl | rfl | rfl | rfl | rfl | rfl | rfl | rfl | rfl | rfl | rfl | rfl | rfl | rfl | rfl | rfl | rfl | rfl | rfl | rfl | rfl | rfl | rfl | rfl | rfl | rfl | rfl | rfl | rfl | rfl | rfl | rfl | rfl | rfl | rfl | rfl | rfl | rfl | rfl
  · exact vk_R.of (A := args) (hts _ (xti 484 rfl)) (hE 0 (by decide))
  · exact vk_R.of (A := args) (hts _ (xti 541 rfl)) (hE 1 (by decide))
  · exact vk_R.of (A := args) (hts _ (xti 542 rfl)) (hE 2 (by decide))
  · exact vk_R.of (A := args) (hts _ (xti 543 rfl)) (hE 3 (by decide))
  · exact vk_R.of (A := args) (hts _ (xti 544 rfl)) (hE 4 (by decide))
  · exact vk_R.of (A := args) (hts _ (xti 545 rfl)) (hE 5 (by decide))
  · exact vk_R.of (A := args) (hts _ (xti 546 rfl)) (hE 6 (by decide))
  · exact vk_R.of (A := args) (hts _ (xti 547 rfl)) (hE 7 (by decide))
  · exact vk_R.of (A := args) (hts _ (xti 548 rfl)) (hE 8 (by decide))
  · exact vk_R.of (A := args) (hts _ (xti 549 rfl)) (hE 9 (by decide))
  · exact vk_R.of (A := args) (hts _ (xti 550 rfl)) (hE 10 (by decide))
  · exact vk_R.of (A := args) (hts _ (xti 551 rfl)) (hE 11 (by decide))
  · exact vk_R.of (A := args) (hts _ (xti 749 rfl)) (hE 12 (by decide))
  · exact vk_R.of (A := args) (hts _ (xti 756 rfl)) (hE 13 (by decide))
  · exact vk_R.of (A := args) (hts _ (xti 757 rfl)) (hE 14 (by decide))
  · obtain ⟨p, -, hp⟩ := s_one (own := "Treeletter$Scribe") (k := 15) (i := 12) hgv hA (by decide) (List.mem_of_getElem? (i := 15) rfl)
    have he := s_cond (q := ("Treeletter$Reader", 100, 99, "Treeletter$Scribe", 15)) hgv (List.mem_of_getElem? (i := 16) rfl) (List.mem_of_getElem? (i := 0) rfl)
    have := eq_refs he (hE 12 (by decide)) hp
    rw [← this] at hp
    exact vk_R.of (A := args) (hts _ (xti 1010 rfl)) hp
  · obtain ⟨p, -, hp⟩ := s_one (own := "Treeletter$Scribe") (k := 27) (i := 13) hgv hA (by decide) (List.mem_of_getElem? (i := 17) rfl)
    have he := s_cond (q := ("Treeletter$Reader", 109, 99, "Treeletter$Scribe", 27)) hgv (List.mem_of_getElem? (i := 18) rfl) (List.mem_of_getElem? (i := 0) rfl)
    have := eq_refs he (hE 13 (by decide)) hp
    rw [← this] at hp
    exact vk_R.of (A := args) (hts _ (xti 1015 rfl)) hp
  · obtain ⟨p, -, hp⟩ := s_one (own := "Treeletter$Scribe") (k := 29) (i := 14) hgv hA (by decide) (List.mem_of_getElem? (i := 19) rfl)
    have he := s_cond (q := ("Treeletter$Reader", 111, 99, "Treeletter$Scribe", 29)) hgv (List.mem_of_getElem? (i := 20) rfl) (List.mem_of_getElem? (i := 0) rfl)
    have := eq_refs he (hE 14 (by decide)) hp
    rw [← this] at hp
    exact vk_R.of (A := args) (hts _ (xti 1016 rfl)) hp
  · exact vk_R.of (A := args) (hts _ (xti 1053 rfl)) (hE 15 (by decide))
  · exact vk_R.of (A := args) (hts _ (xti 1059 rfl)) (hE 16 (by decide))
  · exact vk_R.of (A := args) (hts _ (xti 1060 rfl)) (hE 17 (by decide))
  · exact vk_R.of (A := args) (hts _ (xti 1122 rfl)) (hE 31 (by decide))
  · exact vk_R.of (A := args) (hts _ (xti 1123 rfl)) (hE 32 (by decide))
  · exact vk_R.of (A := args) (hts _ (xti 1124 rfl)) (hE 33 (by decide))
  · exact vk_R.of (A := args) (hts _ (xti 1125 rfl)) (hE 34 (by decide))
  · exact vk_R.of (A := args) (hts _ (xti 1126 rfl)) (hE 35 (by decide))
  · exact vk_R.of (A := args) (hts _ (xti 1127 rfl)) (hE 36 (by decide))
  · exact vk_R.of (A := args) (hts _ (xti 1128 rfl)) (hE 37 (by decide))
  · exact vk_R.of (A := args) (hts _ (xti 1129 rfl)) (hE 38 (by decide))
  · exact vk_R.of (A := args) (hts _ (xti 1130 rfl)) (hE 39 (by decide))
  · exact vk_R.of (A := args) (hts _ (xti 1131 rfl)) (hE 40 (by decide))
  · exact vk_R.of (A := args) (hts _ (xti 1132 rfl)) (hE 41 (by decide))
  · exact vk_R.of (A := args) (hts _ (xti 1133 rfl)) (hE 42 (by decide))
  · exact vk_R.of (A := args) (hts _ (xti 1134 rfl)) (hE 43 (by decide))
  · exact vk_R.of (A := args) (hts _ (xti 1135 rfl)) (hE 44 (by decide))
  · exact vk_R.of (A := args) (hts _ (xti 1136 rfl)) (hE 45 (by decide))
  · exact vk_R.of (A := args) (hts _ (xti 1168 rfl)) (hE 46 (by decide))
  · exact vk_R.of (A := args) (hts _ (xti 1178 rfl)) (hE 47 (by decide))
  · exact vk_R.of (A := args) (hts _ (xti 1179 rfl)) (hE 48 (by decide))
  · exact vk_R.of (A := args) (hts _ (xti 1180 rfl)) (hE 49 (by decide))
  · exact vk_R.of (A := args) (hts _ (xti 1181 rfl)) (hE 50 (by decide))
  · exact vk_R.of (A := args) (hts _ (xti 1182 rfl)) (hE 51 (by decide))
  · exact vk_R.of (A := args) (hts _ (xti 1183 rfl)) (hE 52 (by decide))
  · exact vk_R.of (A := args) (hts _ (xti 1218 rfl)) (hE 53 (by decide))
  · exact vk_R.of (A := args) (hts _ (xti 1440 rfl)) (hE 25 (by decide))
  · exact vk_R.of (A := args) (hts _ (xti 1444 rfl)) (hE 22 (by decide))
  · exact vk_R.of (A := args) (hts _ (xti 1452 rfl)) (hE 23 (by decide))
  · exact vk_R.of (A := args) (hts _ (xti 1455 rfl)) (hE 24 (by decide))
  · exact vk_R.of (A := args) (hts _ (xti 1462 rfl)) (hE 26 (by decide))
  · exact vk_R.of (A := args) (hts _ (xti 1494 rfl)) (hE 21 (by decide))
  · obtain ⟨p, -, hp⟩ := s_one (own := "Treeletter$Editor") (k := 175) (i := 22) hgv hA (by decide) (List.mem_of_getElem? (i := 53) rfl)
    have he := s_cond (q := ("Treeletter$Orders", 140, 99, "Treeletter$Editor", 175)) hgv (List.mem_of_getElem? (i := 54) rfl) (List.mem_of_getElem? (i := 0) rfl)
    have := eq_refs he (hE 22 (by decide)) hp
    rw [← this] at hp
    exact vk_R.of (A := args) (hts _ (xti 1516 rfl)) hp
  · obtain ⟨p, -, hp⟩ := s_one (own := "Treeletter$Editor") (k := 181) (i := 23) hgv hA (by decide) (List.mem_of_getElem? (i := 55) rfl)
    have he := s_cond (q := ("Treeletter$Orders", 156, 99, "Treeletter$Editor", 181)) hgv (List.mem_of_getElem? (i := 56) rfl) (List.mem_of_getElem? (i := 0) rfl)
    have := eq_refs he (hE 23 (by decide)) hp
    rw [← this] at hp
    exact vk_R.of (A := args) (hts _ (xti 1518 rfl)) hp
  · exact vk_R.of (A := args) (hts _ (xti 1519 rfl)) (hE 27 (by decide))
  · obtain ⟨p, -, hp⟩ := s_one (own := "Treeletter$Editor") (k := 184) (i := 24) hgv hA (by decide) (List.mem_of_getElem? (i := 58) rfl)
    have he := s_cond (q := ("Treeletter$Orders", 164, 99, "Treeletter$Editor", 184)) hgv (List.mem_of_getElem? (i := 59) rfl) (List.mem_of_getElem? (i := 0) rfl)
    have := eq_refs he (hE 24 (by decide)) hp
    rw [← this] at hp
    exact vk_R.of (A := args) (hts _ (xti 1520 rfl)) hp
  · obtain ⟨p, -, hp⟩ := s_one (own := "Treeletter$Editor") (k := 97) (i := 25) hgv hA (by decide) (List.mem_of_getElem? (i := 60) rfl)
    have he := s_cond (q := ("Treeletter$Orders", 97, 99, "Treeletter$Editor", 97)) hgv (List.mem_of_getElem? (i := 61) rfl) (List.mem_of_getElem? (i := 0) rfl)
    have := eq_refs he (hE 25 (by decide)) hp
    rw [← this] at hp
    exact vk_R.of (A := args) (hts _ (xti 1535 rfl)) hp
  · obtain ⟨p, -, hp⟩ := s_one (own := "Treeletter$Editor") (k := 157) (i := 26) hgv hA (by decide) (List.mem_of_getElem? (i := 62) rfl)
    have he := s_cond (q := ("Treeletter$Orders", 106, 99, "Treeletter$Editor", 157)) hgv (List.mem_of_getElem? (i := 63) rfl) (List.mem_of_getElem? (i := 0) rfl)
    have := eq_refs he (hE 26 (by decide)) hp
    rw [← this] at hp
    exact vk_R.of (A := args) (hts _ (xti 1575 rfl)) hp
  · exact vk_R.of (A := args) (hts _ (xti 1589 rfl)) (hE 28 (by decide))
  · exact vk_R.of (A := args) (hts _ (xti 1607 rfl)) (hE 20 (by decide))
  · obtain ⟨p, -, hp⟩ := s_one (own := "Treeletter$Editor") (k := 84) (i := 21) hgv hA (by decide) (List.mem_of_getElem? (i := 66) rfl)
    have he := s_cond (q := ("Treeletter$Orders", 77, 99, "Treeletter$Editor", 84)) hgv (List.mem_of_getElem? (i := 67) rfl) (List.mem_of_getElem? (i := 0) rfl)
    have := eq_refs he (hE 21 (by decide)) hp
    rw [← this] at hp
    exact vk_R.of (A := args) (hts _ (xti 1614 rfl)) hp
  · exact vk_R.of (A := args) (hts _ (xti 1628 rfl)) (hE 29 (by decide))
  · exact vk_R.of (A := args) (hts _ (xti 1633 rfl)) (hE 30 (by decide))
  · exact vk_R.of (A := args) (hts _ (xti 1775 rfl)) (hE 18 (by decide))
  · exact vk_R.of (A := args) (hts _ (xti 1778 rfl)) (hE 19 (by decide))
set_option maxHeartbeats 4000000 in
set_option maxRecDepth 100000 in
/-- THE LAW: out of what the functions answer -/
theorem x_law {l : Launch} {Z : XZ} {n1 n3 : Nat} {x1 : Int} {S1 S3 : GS} (H1 : f_X11_init n1 2035 193 S0c [] = some (x1, S1)) (H3 : f_L_law Z.1.2.1 (fun k => (Z.1.2.2 k).toInt) n3 2036 15 S1 [1, 0, 0] = some (1, S3)) : XMet l Z yL_law cL_law 9 (some .boolean) [] 2036 600130 7301080 [.ref Z.1.1] (fun _ => none) (fun v _ => v = some (.int 1)) (fun _ _ => False) := by
  refine XMet.of (by decide) (Nat.le_of_ble_eq_true rfl) ?_
  refine XA.new (xnw_X11 xcl_L_11) dL_law_0 (Nat.le_of_ble_eq_true rfl) (Nat.le_of_ble_eq_true rfl) (fun q1 hq1 => ?_)
  refine XA.dup dL_law_3 rfl ?_
  refine XA.callI (As := []) (n_X11 (d := 2035) (by decide) xup_s H1) xs_L_101 dL_law_4 rfl (by decide) (by decide) rfl (Nat.le_of_ble_eq_true rfl) (Nat.le_of_ble_eq_true rfl) (Nat.le_of_ble_eq_true rfl) (fun E h9 hx => hx.elim) (fun v h1 hq => ?_)
  obtain ⟨rfl, L1, hG1, hL1, hL10, hL11⟩ := hq
  refine XA.astore_n dL_law_7 (by decide) rfl ?_
  refine XA.iconst (v := J 1) dL_law_8 (by decide) ?_
  refine XA.istore_n dL_law_9 (by decide) rfl ?_
  refine XA.iconst (v := J 0) dL_law_10 (by decide) ?_
  refine XA.istore_n dL_law_11 (by decide) rfl ?_
  refine XA.iconst (v := J 0) dL_law_12 (by decide) ?_
  refine XA.istore dL_law_13 (by decide) rfl ?_
  have hk := (g_L_law (l := l) (Z := Z) (L := L1) (mc := 600130) (ms := 7301080) n3).1 2036 S1 1 0 0 1 S3 H3 600 501000 (by omega)
  rw [hL1] at hk
  refine XA.widen (nc' := 600) (ns' := 501000) (Nat.le_of_ble_eq_true rfl) (Nat.le_of_ble_eq_true rfl) ?_
  refine XA.locals (lv1 := [(0, .ref Z.1.1), (1, .ref q1), (2, .int (J 1)), (3, .int (J 0)), (4, .int (J 0))]) (fun q hq => ?_) ?_
  · simp only [List.mem_cons, List.not_mem_nil, or_false] at hq
    rcases hq with rfl | rfl | rfl | rfl | rfl
    · exact List.mem_of_getElem? (i := 4) rfl
    · exact List.mem_of_getElem? (i := 3) rfl
    · exact List.mem_of_getElem? (i := 2) rfl
    · exact List.mem_of_getElem? (i := 1) rfl
    · exact List.mem_of_getElem? (i := 0) rfl
  refine XA.mono (fun v h' hq => ?_) (fun E h' hq => ?_) (hk _ [(0, .ref Z.1.1), (1, .ref q1), (2, .int (J 1)), (3, .int (J 0)), (4, .int (J 0))] hG1 (fun i v hv => xlk_mem hv))
  · obtain ⟨S', h1, rfl, rfl⟩ := hq
    rfl
  · obtain ⟨S', h1, h3⟩ := hq
    exact h3
