/-! THE LAW FROM ITS ENTRY: the String constants -/
abbrev XQ : Type := String × Nat × Nat × String × Nat
def xsq : List XQ := [("Treeletter$Scribe", 105, 0, "", 0), ("Treeletter$Scribe", 107, 1, "", 0), ("Treeletter$Scribe", 109, 2, "", 0), ("Treeletter$Scribe", 111, 3, "", 0), ("Treeletter$Scribe", 113, 4, "", 0), ("Treeletter$Scribe", 115, 5, "", 0), ("Treeletter$Scribe", 117, 6, "", 0), ("Treeletter$Scribe", 119, 7, "", 0), ("Treeletter$Scribe", 121, 8, "", 0), ("Treeletter$Scribe", 123, 9, "", 0), ("Treeletter$Scribe", 125, 10, "", 0), ("Treeletter$Scribe", 127, 11, "", 0), ("Treeletter$Reader", 100, 12, "", 0), ("Treeletter$Reader", 109, 13, "", 0), ("Treeletter$Reader", 111, 14, "", 0), ("Treeletter$Scribe", 15, 12, "", 0), ("Treeletter$Reader", 100, 99, "Treeletter$Scribe", 15), ("Treeletter$Scribe", 27, 13, "", 0), ("Treeletter$Reader", 109, 99, "Treeletter$Scribe", 27), ("Treeletter$Scribe", 29, 14, "", 0), ("Treeletter$Reader", 111, 99, "Treeletter$Scribe", 29), ("Treeletter$Scribe", 100, 15, "", 0), ("Treeletter$Scribe", 90, 16, "", 0), ("Treeletter$Scribe", 92, 17, "", 0), ("Treeletter$Finder", 68, 18, "", 0), ("Treeletter$Finder", 80, 19, "", 0), ("Treeletter$Editor", 143, 20, "", 0), ("Treeletter$Editor", 84, 21, "", 0), ("Treeletter$Orders", 140, 22, "", 0), ("Treeletter$Orders", 156, 23, "", 0), ("Treeletter$Orders", 164, 24, "", 0), ("Treeletter$Editor", 97, 25, "", 0), ("Treeletter$Editor", 157, 26, "", 0), ("Treeletter$Editor", 175, 22, "", 0), ("Treeletter$Orders", 140, 99, "Treeletter$Editor", 175), ("Treeletter$Editor", 181, 23, "", 0), ("Treeletter$Orders", 156, 99, "Treeletter$Editor", 181), ("Treeletter$Editor", 182, 27, "", 0), ("Treeletter$Editor", 184, 24, "", 0), ("Treeletter$Orders", 164, 99, "Treeletter$Editor", 184), ("Treeletter$Editor", 195, 28, "", 0), ("Treeletter$Editor", 204, 29, "", 0), ("Treeletter$Editor", 209, 30, "", 0), ("Treeletter$Orders", 97, 25, "", 0), ("Treeletter$Editor", 97, 99, "Treeletter$Orders", 97), ("Treeletter$Orders", 106, 26, "", 0), ("Treeletter$Editor", 157, 99, "Treeletter$Orders", 106), ("Treeletter$Orders", 77, 21, "", 0), ("Treeletter$Editor", 84, 99, "Treeletter$Orders", 77), ("Treeletter$Checker", 84, 31, "", 0), ("Treeletter$Checker", 86, 32, "", 0), ("Treeletter$Checker", 88, 33, "", 0), ("Treeletter$Checker", 90, 34, "", 0), ("Treeletter$Checker", 92, 35, "", 0), ("Treeletter$Checker", 94, 36, "", 0), ("Treeletter$Checker", 96, 37, "", 0), ("Treeletter$Checker", 98, 38, "", 0), ("Treeletter$Checker", 100, 39, "", 0), ("Treeletter$Checker", 102, 40, "", 0), ("Treeletter$Checker", 104, 41, "", 0), ("Treeletter$Checker", 106, 42, "", 0), ("Treeletter$Checker", 108, 43, "", 0), ("Treeletter$Checker", 110, 44, "", 0), ("Treeletter$Checker", 112, 45, "", 0), ("Treeletter$Checker", 228, 46, "", 0), ("Treeletter$Checker", 114, 47, "", 0), ("Treeletter$Checker", 116, 48, "", 0), ("Treeletter$Checker", 118, 49, "", 0), ("Treeletter$Checker", 120, 50, "", 0), ("Treeletter$Checker", 122, 51, "", 0), ("Treeletter$Checker", 124, 52, "", 0), ("Treeletter$Checker", 200, 53, "", 0)]
def sblk : XQ → List Cond := fun (own, k, i, o2, k2) => if i = 99 then [.eq (.string own k) (.string o2 k2)] else [.exactly (.string own k) "java/lang/String", .eq (.field (.string own k) "java/lang/String" "coder" "B") (.int 0), .arrayOf (.field (.string own k) "java/lang/String" "value" "[B") .byte, .eq (.length (.field (.string own k) "java/lang/String" "value" "[B")) (.int (Int32.ofNat (xlen.getD i 0)))] ++ (List.range (xlen.getD i 0)).map (fun j => .eq (.elem (.field (.string own k) "java/lang/String" "value" "[B") (.int (Int32.ofNat j))) (.int ((xbyt.getD i []).getD j 0)))
set_option maxRecDepth 100000 in
theorem sdrop : (flatC (Jvm.Cond.and given_1 narrow_1)).drop 53 = xsq.flatMap sblk := by decide +kernel
theorem s_cond {args : Array Value} {s : State} (hgv : (Jvm.Cond.and given_1 narrow_1).before args s = true) {q : XQ} (hq : q ∈ xsq) {c : Cond} (hc : c ∈ sblk q) : c.before args s = true :=
  flat_of_before _ hgv _ (List.mem_of_mem_drop (by rw [sdrop]; exact List.mem_flatMap.mpr ⟨q, hq, hc⟩))
def xrep : List (String × Nat) := [("Treeletter$Scribe", 105), ("Treeletter$Scribe", 107), ("Treeletter$Scribe", 109), ("Treeletter$Scribe", 111), ("Treeletter$Scribe", 113), ("Treeletter$Scribe", 115), ("Treeletter$Scribe", 117), ("Treeletter$Scribe", 119), ("Treeletter$Scribe", 121), ("Treeletter$Scribe", 123), ("Treeletter$Scribe", 125), ("Treeletter$Scribe", 127), ("Treeletter$Reader", 100), ("Treeletter$Reader", 109), ("Treeletter$Reader", 111), ("Treeletter$Scribe", 100), ("Treeletter$Scribe", 90), ("Treeletter$Scribe", 92), ("Treeletter$Finder", 68), ("Treeletter$Finder", 80), ("Treeletter$Editor", 143), ("Treeletter$Editor", 84), ("Treeletter$Orders", 140), ("Treeletter$Orders", 156), ("Treeletter$Orders", 164), ("Treeletter$Editor", 97), ("Treeletter$Editor", 157), ("Treeletter$Editor", 182), ("Treeletter$Editor", 195), ("Treeletter$Editor", 204), ("Treeletter$Editor", 209), ("Treeletter$Checker", 84), ("Treeletter$Checker", 86), ("Treeletter$Checker", 88), ("Treeletter$Checker", 90), ("Treeletter$Checker", 92), ("Treeletter$Checker", 94), ("Treeletter$Checker", 96), ("Treeletter$Checker", 98), ("Treeletter$Checker", 100), ("Treeletter$Checker", 102), ("Treeletter$Checker", 104), ("Treeletter$Checker", 106), ("Treeletter$Checker", 108), ("Treeletter$Checker", 110), ("Treeletter$Checker", 112), ("Treeletter$Checker", 228), ("Treeletter$Checker", 114), ("Treeletter$Checker", 116), ("Treeletter$Checker", 118), ("Treeletter$Checker", 120), ("Treeletter$Checker", 122), ("Treeletter$Checker", 124), ("Treeletter$Checker", 200)]
theorem xrep_in : ∀ i, i < 54 → (((xrep.getD i ("", 0)).1, (xrep.getD i ("", 0)).2, i, "", 0) : XQ) ∈ xsq := by decide +kernel
theorem s_one {args : Array Value} {s : State} {A : Nat → Prop} (hgv : (Jvm.Cond.and given_1 narrow_1).before args s = true) (hA : ∀ a : Nat, a < s.heap.size → ¬ A a) {own : String} {k i : Nat} (hi : i < 54) (hq : ((own, k, i, "", 0) : XQ) ∈ xsq) : ∃ p : Nat × Nat, (va_O "java/lang/String" p.1 A s s.heap ∧ va_OF "java/lang/String" "coder" "B" (.int 0) p.1 A s s.heap ∧ va_OF "java/lang/String" "value" "[B" (.ref p.2) p.1 A s s.heap ∧ va_T .byte p.2 (xlen.getD i 0) (fun j => .int ((xbyt.getD i []).getD j 0)) A s s.heap) ∧ (Term.string own k).eval args s none [] s = some (.ref p.1) := by
  have hlen := xlen_le i hi
  have hb : sblk (own, k, i, "", 0) = [.exactly (.string own k) "java/lang/String", .eq (.field (.string own k) "java/lang/String" "coder" "B") (.int 0), .arrayOf (.field (.string own k) "java/lang/String" "value" "[B") .byte, .eq (.length (.field (.string own k) "java/lang/String" "value" "[B")) (.int (Int32.ofNat (xlen.getD i 0)))] ++ (List.range (xlen.getD i 0)).map (fun j => .eq (.elem (.field (.string own k) "java/lang/String" "value" "[B") (.int (Int32.ofNat j))) (.int ((xbyt.getD i []).getD j 0))) := if_neg (by omega)
  obtain ⟨adK, adV, hS, hE⟩ := vk_Sof (N := 1) (tm := fun _ => .string own k) (len := [xlen.getD i 0]) (byt := [xbyt.getD i []]) (A := A)
    (fun j hj => by obtain rfl : j = 0 := by omega
                    show xlen.getD i 0 < 2 ^ 31; omega)
    (fun j hj => s_cond hgv hq (by rw [hb]; exact List.mem_of_getElem? (i := 0) rfl)) (fun j hj => s_cond hgv hq (by rw [hb]; exact List.mem_of_getElem? (i := 1) rfl)) (fun j hj => s_cond hgv hq (by rw [hb]; exact List.mem_of_getElem? (i := 2) rfl))
    (fun j hj => by obtain rfl : j = 0 := by omega
                    exact s_cond hgv hq (by rw [hb]; exact List.mem_of_getElem? (i := 3) rfl))
    (fun j hj j2 hj2 => by
      obtain rfl : j = 0 := by omega
      exact s_cond hgv hq (by rw [hb]; exact List.mem_append_right _ (List.mem_map.mpr ⟨j2, List.mem_range.mpr hj2, rfl⟩)))
    (fun a b ha hb hab => absurd (by omega) hab) hA
  exact ⟨(adK 0, adV 0), hS.1 0 (by omega), hE 0 (by omega)⟩
theorem xbyt_ne : ∀ i, i < 54 → ∀ j, j < 54 → xlen.getD i 0 = xlen.getD j 0 → (∀ k, k < xlen.getD i 0 → (xbyt.getD i []).getD k 0 = (xbyt.getD j []).getD k 0) → i = j := by decide +kernel
theorem va_OF_inj {o n d : String} {a b t : Nat} {A : Nat → Prop} {U : State} {H : Heap} (h : va_OF o n d (.ref a) t A U H) (g : va_OF o n d (.ref b) t A U H) : a = b := by
  obtain ⟨cf, k, i, f, cell, h1, h2, h3, h4, h5, h6⟩ := h
  obtain ⟨cf', k', i', f', cell', g1, g2, g3, g4, g5, g6⟩ := g
  rw [h1] at g1
  cases g1
  rw [h3] at g3
  cases g3
  rw [h5] at g5
  cases g5
  rfl
theorem va_T_inj {ty : FieldType} {t N M : Nat} {f g : Nat → Value} {A : Nat → Prop} {U : State} {H : Heap} (hN : N < 1000) (hM : M < 1000) (h : va_T ty t N f A U H) (k : va_T ty t M g A U H) : N = M ∧ ∀ j, j < N → f j = g j := by
  obtain ⟨cell, h1, h2, h3, h4, h5, h6, h7⟩ := h
  obtain ⟨cell', k1, k2, k3, k4, k5, k6, k7⟩ := k
  rw [h1] at k1
  cases k1
  have e : N = M := by
    have := h5.symm.trans k5
    have e1 := congrArg Int32.toInt this
    rw [Int32.toInt_ofNat_of_lt (by omega), Int32.toInt_ofNat_of_lt (by omega)] at e1
    omega
  subst e
  refine ⟨rfl, fun j hj => ?_⟩
  exact Option.some.inj ((h6 j hj).symm.trans (k6 j hj))
theorem s_all {args : Array Value} {s : State} {A : Nat → Prop} (hgv : (Jvm.Cond.and given_1 narrow_1).before args s = true) (hA : ∀ a : Nat, a < s.heap.size → ¬ A a) : ∃ adK adV : Nat → Nat, vk_S xN xlen xbyt adK adV A s s.heap ∧ ∀ i, i < 54 → (Term.string (xrep.getD i ("", 0)).1 (xrep.getD i ("", 0)).2).eval args s none [] s = some (.ref (adK i)) := by
  have h0 : ∀ i : Nat, ∃ p : Nat × Nat, i < 54 → (va_O "java/lang/String" p.1 A s s.heap ∧ va_OF "java/lang/String" "coder" "B" (.int 0) p.1 A s s.heap ∧ va_OF "java/lang/String" "value" "[B" (.ref p.2) p.1 A s s.heap ∧ va_T .byte p.2 (xlen.getD i 0) (fun j => .int ((xbyt.getD i []).getD j 0)) A s s.heap) ∧ (Term.string (xrep.getD i ("", 0)).1 (xrep.getD i ("", 0)).2).eval args s none [] s = some (.ref p.1) := by
    intro i
    by_cases hi : i < 54
    · obtain ⟨p, hp⟩ := s_one hgv hA hi (xrep_in i hi)
      exact ⟨p, fun _ => hp⟩
    · exact ⟨(0, 0), fun h => absurd h hi⟩
  obtain ⟨f, hf⟩ := Classical.axiomOfChoice h0
  refine ⟨fun i => (f i).1, fun i => (f i).2, ⟨fun i hi => (hf i hi).1, fun i j hi hj e => ?_⟩, fun i hi => (hf i hi).2⟩
  have h1 := (hf i hi).1
  have h2 := (hf j hj).1
  have e : (f i).1 = (f j).1 := e
  rw [← e] at h2
  have ev := va_OF_inj h1.2.2.1 h2.2.2.1
  rw [← ev] at h2
  obtain ⟨e3, e4⟩ := va_T_inj (by have := xlen_le i hi; omega) (by have := xlen_le j hj; omega) h1.2.2.2 h2.2.2.2
  refine xbyt_ne i hi j hj e3 (fun k hk => ?_)
  exact Value.int.inj (e4 k hk)
theorem eq_refs {args : Array Value} {s : State} {X Y : Term} {a b : Nat} (h : (Cond.eq X Y).before args s = true) (hx : X.eval args s none [] s = some (.ref a)) (hy : Y.eval args s none [] s = some (.ref b)) : a = b := by
  simp only [Cond.before, Cond.holds, Cond.value, hx, hy] at h
  simpa using h
set_option maxHeartbeats 4000000 in
set_option maxRecDepth 100000 in
theorem s_site {args : Array Value} {s : State} {A : Nat → Prop} (hgv : (Jvm.Cond.and given_1 narrow_1).before args s = true) (hA : ∀ a : Nat, a < s.heap.size → ¬ A a) (hts : ∀ w ∈ lw_tbl, w.before args s = true) {adK : Nat → Nat} (hE : ∀ i, i < 54 → (Term.string (xrep.getD i ("", 0)).1 (xrep.getD i ("", 0)).2).eval args s none [] s = some (.ref (adK i))) : ∀ q ∈ xstr, vk_R q.1 q.2.1 q.2.2.1 (adK q.2.2.2) s := by
  intro q hq
  unfold xstr at hq
  simp only [List.mem_cons, List.not_mem_nil, or_false] at hq
  rcases hq with rfl | rfl | rfl | rfl | rfl | rfl | rfl | rfl | rfl | rfl | rfl | rfl | rfl | rfl | rfl | rfl | rfl | rfl | rfl | rfl | rfl | rfl | rfl | rfl | rfl | rfl | rfl | rfl | rfl | rfl | rfl | rfl | rfl | rfl | rfl | rfl | rfl | rfl | rfl | rfl | rfl | rfl | rfl | rfl | rfl | rfl | rfl | rfl | rfl | rfl | rfl | rfl | rfl | rfl | rfl | rfl | rfl | rfl | rfl | rfl | rfl | rfl | rfl
  · exact vk_R.of (A := args) (hts _ (xti 599 rfl)) (hE 0 (by decide))
  · exact vk_R.of (A := args) (hts _ (xti 656 rfl)) (hE 1 (by decide))
  · exact vk_R.of (A := args) (hts _ (xti 657 rfl)) (hE 2 (by decide))
  · exact vk_R.of (A := args) (hts _ (xti 658 rfl)) (hE 3 (by decide))
  · exact vk_R.of (A := args) (hts _ (xti 659 rfl)) (hE 4 (by decide))
  · exact vk_R.of (A := args) (hts _ (xti 660 rfl)) (hE 5 (by decide))
  · exact vk_R.of (A := args) (hts _ (xti 661 rfl)) (hE 6 (by decide))
  · exact vk_R.of (A := args) (hts _ (xti 662 rfl)) (hE 7 (by decide))
  · exact vk_R.of (A := args) (hts _ (xti 663 rfl)) (hE 8 (by decide))
  · exact vk_R.of (A := args) (hts _ (xti 664 rfl)) (hE 9 (by decide))
  · exact vk_R.of (A := args) (hts _ (xti 665 rfl)) (hE 10 (by decide))
  · exact vk_R.of (A := args) (hts _ (xti 666 rfl)) (hE 11 (by decide))
  · exact vk_R.of (A := args) (hts _ (xti 864 rfl)) (hE 12 (by decide))
  · exact vk_R.of (A := args) (hts _ (xti 871 rfl)) (hE 13 (by decide))
  · exact vk_R.of (A := args) (hts _ (xti 872 rfl)) (hE 14 (by decide))
  · obtain ⟨p, -, hp⟩ := s_one (own := "Treeletter$Scribe") (k := 15) (i := 12) hgv hA (by decide) (List.mem_of_getElem? (i := 15) rfl)
    have he := s_cond (q := ("Treeletter$Reader", 100, 99, "Treeletter$Scribe", 15)) hgv (List.mem_of_getElem? (i := 16) rfl) (List.mem_of_getElem? (i := 0) rfl)
    have := eq_refs he (hE 12 (by decide)) hp
    rw [← this] at hp
    exact vk_R.of (A := args) (hts _ (xti 1118 rfl)) hp
  · obtain ⟨p, -, hp⟩ := s_one (own := "Treeletter$Scribe") (k := 27) (i := 13) hgv hA (by decide) (List.mem_of_getElem? (i := 17) rfl)
    have he := s_cond (q := ("Treeletter$Reader", 109, 99, "Treeletter$Scribe", 27)) hgv (List.mem_of_getElem? (i := 18) rfl) (List.mem_of_getElem? (i := 0) rfl)
    have := eq_refs he (hE 13 (by decide)) hp
    rw [← this] at hp
    exact vk_R.of (A := args) (hts _ (xti 1127 rfl)) hp
  · obtain ⟨p, -, hp⟩ := s_one (own := "Treeletter$Scribe") (k := 29) (i := 14) hgv hA (by decide) (List.mem_of_getElem? (i := 19) rfl)
    have he := s_cond (q := ("Treeletter$Reader", 111, 99, "Treeletter$Scribe", 29)) hgv (List.mem_of_getElem? (i := 20) rfl) (List.mem_of_getElem? (i := 0) rfl)
    have := eq_refs he (hE 14 (by decide)) hp
    rw [← this] at hp
    exact vk_R.of (A := args) (hts _ (xti 1128 rfl)) hp
  · exact vk_R.of (A := args) (hts _ (xti 1186 rfl)) (hE 15 (by decide))
  · exact vk_R.of (A := args) (hts _ (xti 1192 rfl)) (hE 16 (by decide))
  · exact vk_R.of (A := args) (hts _ (xti 1193 rfl)) (hE 17 (by decide))
  · exact vk_R.of (A := args) (hts _ (xti 1416 rfl)) (hE 18 (by decide))
  · exact vk_R.of (A := args) (hts _ (xti 1422 rfl)) (hE 19 (by decide))
  · exact vk_R.of (A := args) (hts _ (xti 1508 rfl)) (hE 20 (by decide))
  · exact vk_R.of (A := args) (hts _ (xti 1516 rfl)) (hE 21 (by decide))
  · exact vk_R.of (A := args) (hts _ (xti 1525 rfl)) (hE 22 (by decide))
  · exact vk_R.of (A := args) (hts _ (xti 1535 rfl)) (hE 23 (by decide))
  · exact vk_R.of (A := args) (hts _ (xti 1539 rfl)) (hE 24 (by decide))
  · exact vk_R.of (A := args) (hts _ (xti 1554 rfl)) (hE 25 (by decide))
  · exact vk_R.of (A := args) (hts _ (xti 1578 rfl)) (hE 26 (by decide))
  · obtain ⟨p, -, hp⟩ := s_one (own := "Treeletter$Editor") (k := 175) (i := 22) hgv hA (by decide) (List.mem_of_getElem? (i := 33) rfl)
    have he := s_cond (q := ("Treeletter$Orders", 140, 99, "Treeletter$Editor", 175)) hgv (List.mem_of_getElem? (i := 34) rfl) (List.mem_of_getElem? (i := 0) rfl)
    have := eq_refs he (hE 22 (by decide)) hp
    rw [← this] at hp
    exact vk_R.of (A := args) (hts _ (xti 1599 rfl)) hp
  · obtain ⟨p, -, hp⟩ := s_one (own := "Treeletter$Editor") (k := 181) (i := 23) hgv hA (by decide) (List.mem_of_getElem? (i := 35) rfl)
    have he := s_cond (q := ("Treeletter$Orders", 156, 99, "Treeletter$Editor", 181)) hgv (List.mem_of_getElem? (i := 36) rfl) (List.mem_of_getElem? (i := 0) rfl)
    have := eq_refs he (hE 23 (by decide)) hp
    rw [← this] at hp
    exact vk_R.of (A := args) (hts _ (xti 1608 rfl)) hp
  · exact vk_R.of (A := args) (hts _ (xti 1609 rfl)) (hE 27 (by decide))
  · obtain ⟨p, -, hp⟩ := s_one (own := "Treeletter$Editor") (k := 184) (i := 24) hgv hA (by decide) (List.mem_of_getElem? (i := 38) rfl)
    have he := s_cond (q := ("Treeletter$Orders", 164, 99, "Treeletter$Editor", 184)) hgv (List.mem_of_getElem? (i := 39) rfl) (List.mem_of_getElem? (i := 0) rfl)
    have := eq_refs he (hE 24 (by decide)) hp
    rw [← this] at hp
    exact vk_R.of (A := args) (hts _ (xti 1610 rfl)) hp
  · exact vk_R.of (A := args) (hts _ (xti 1621 rfl)) (hE 28 (by decide))
  · exact vk_R.of (A := args) (hts _ (xti 1627 rfl)) (hE 29 (by decide))
  · exact vk_R.of (A := args) (hts _ (xti 1632 rfl)) (hE 30 (by decide))
  · obtain ⟨p, -, hp⟩ := s_one (own := "Treeletter$Orders") (k := 97) (i := 25) hgv hA (by decide) (List.mem_of_getElem? (i := 43) rfl)
    have he := s_cond (q := ("Treeletter$Editor", 97, 99, "Treeletter$Orders", 97)) hgv (List.mem_of_getElem? (i := 44) rfl) (List.mem_of_getElem? (i := 0) rfl)
    have := eq_refs he (hE 25 (by decide)) hp
    rw [← this] at hp
    exact vk_R.of (A := args) (hts _ (xti 1665 rfl)) hp
  · obtain ⟨p, -, hp⟩ := s_one (own := "Treeletter$Orders") (k := 106) (i := 26) hgv hA (by decide) (List.mem_of_getElem? (i := 45) rfl)
    have he := s_cond (q := ("Treeletter$Editor", 157, 99, "Treeletter$Orders", 106)) hgv (List.mem_of_getElem? (i := 46) rfl) (List.mem_of_getElem? (i := 0) rfl)
    have := eq_refs he (hE 26 (by decide)) hp
    rw [← this] at hp
    exact vk_R.of (A := args) (hts _ (xti 1672 rfl)) hp
  · obtain ⟨p, -, hp⟩ := s_one (own := "Treeletter$Orders") (k := 77) (i := 21) hgv hA (by decide) (List.mem_of_getElem? (i := 47) rfl)
    have he := s_cond (q := ("Treeletter$Editor", 84, 99, "Treeletter$Orders", 77)) hgv (List.mem_of_getElem? (i := 48) rfl) (List.mem_of_getElem? (i := 0) rfl)
    have := eq_refs he (hE 21 (by decide)) hp
    rw [← this] at hp
    exact vk_R.of (A := args) (hts _ (xti 1704 rfl)) hp
  · exact vk_R.of (A := args) (hts _ (xti 1824 rfl)) (hE 31 (by decide))
  · exact vk_R.of (A := args) (hts _ (xti 1825 rfl)) (hE 32 (by decide))
  · exact vk_R.of (A := args) (hts _ (xti 1826 rfl)) (hE 33 (by decide))
  · exact vk_R.of (A := args) (hts _ (xti 1827 rfl)) (hE 34 (by decide))
  · exact vk_R.of (A := args) (hts _ (xti 1828 rfl)) (hE 35 (by decide))
  · exact vk_R.of (A := args) (hts _ (xti 1829 rfl)) (hE 36 (by decide))
  · exact vk_R.of (A := args) (hts _ (xti 1830 rfl)) (hE 37 (by decide))
  · exact vk_R.of (A := args) (hts _ (xti 1831 rfl)) (hE 38 (by decide))
  · exact vk_R.of (A := args) (hts _ (xti 1832 rfl)) (hE 39 (by decide))
  · exact vk_R.of (A := args) (hts _ (xti 1833 rfl)) (hE 40 (by decide))
  · exact vk_R.of (A := args) (hts _ (xti 1834 rfl)) (hE 41 (by decide))
  · exact vk_R.of (A := args) (hts _ (xti 1835 rfl)) (hE 42 (by decide))
  · exact vk_R.of (A := args) (hts _ (xti 1836 rfl)) (hE 43 (by decide))
  · exact vk_R.of (A := args) (hts _ (xti 1837 rfl)) (hE 44 (by decide))
  · exact vk_R.of (A := args) (hts _ (xti 1838 rfl)) (hE 45 (by decide))
  · exact vk_R.of (A := args) (hts _ (xti 1861 rfl)) (hE 46 (by decide))
  · exact vk_R.of (A := args) (hts _ (xti 1868 rfl)) (hE 47 (by decide))
  · exact vk_R.of (A := args) (hts _ (xti 1869 rfl)) (hE 48 (by decide))
  · exact vk_R.of (A := args) (hts _ (xti 1870 rfl)) (hE 49 (by decide))
  · exact vk_R.of (A := args) (hts _ (xti 1871 rfl)) (hE 50 (by decide))
  · exact vk_R.of (A := args) (hts _ (xti 1872 rfl)) (hE 51 (by decide))
  · exact vk_R.of (A := args) (hts _ (xti 1873 rfl)) (hE 52 (by decide))
  · exact vk_R.of (A := args) (hts _ (xti 1898 rfl)) (hE 53 (by decide))
def gs0 (S : GS) : GS := (fun c => if c = 600 then fun _ => 0 else S.1 c, S.2)
def LLo (L : Nat → Nat) (q M : Nat) : Nat → Nat := fun c => if c < 495 then L c else if c < 500 then M + c else if c < 555 then L c else if c = 600 then q else if c < 700 then M + c else if c = 700 then 1 else if c = 701 then 1 else 0
theorem LLo_l {L : Nat → Nat} {q M c : Nat} (h : c < 495 ∨ (500 ≤ c ∧ c < 555)) : LLo L q M c = L c := by
  unfold LLo
  by_cases h1 : c < 495
  · rw [if_pos h1]
  · rw [if_neg h1, if_neg (by omega), if_pos (by omega)]
theorem LLo_m {L : Nat → Nat} {q M c : Nat} (h : (495 ≤ c ∧ c < 500) ∨ (555 ≤ c ∧ c ≠ 600 ∧ c < 700)) : LLo L q M c = M + c := by
  unfold LLo
  by_cases h1 : c < 500
  · rw [if_neg (by omega), if_pos h1]
  · rw [if_neg (by omega), if_neg h1, if_neg (by omega), if_neg (by omega), if_pos (by omega)]
theorem LLo_inj {L : Nat → Nat} {q M : Nat} (hi : ∀ c c', c < 700 → c' < 700 → L c = L c' → c = c') (hq : ∀ c, (c < 495 ∨ (500 ≤ c ∧ c < 555)) → L c ≠ q) (hM : ∀ a ∈ q :: (List.range 700).map L, a < M) : ∀ c c', c < 700 → c' < 700 → LLo L q M c = LLo L q M c' → c = c' := by
  have hM1 : ∀ c, c < 700 → L c < M := fun c hc => hM _ (List.mem_cons_of_mem _ (List.mem_map_of_mem (List.mem_range.mpr hc)))
  have hMq : q < M := hM q List.mem_cons_self
  have h6 : LLo L q M 600 = q := rfl
  have key : ∀ c c', c < 700 → c' < 700 → LLo L q M c = LLo L q M c' → (c < 495 ∨ (500 ≤ c ∧ c < 555)) → c = c' := by
    intro c c' h1 h2 e hc
    rw [LLo_l hc] at e
    by_cases a : c' < 495 ∨ (500 ≤ c' ∧ c' < 555)
    · rw [LLo_l a] at e; exact hi c c' h1 h2 e
    · exfalso
      by_cases a2 : c' = 600
      · rw [a2, h6] at e; exact hq c hc e
      · rw [LLo_m (c := c') (by omega)] at e
        have := hM1 c h1; omega
  intro c c' h1 h2 e
  by_cases a : c < 495 ∨ (500 ≤ c ∧ c < 555)
  · exact key c c' h1 h2 e a
  · by_cases b : c' < 495 ∨ (500 ≤ c' ∧ c' < 555)
    · exact (key c' c h2 h1 e.symm b).symm
    · by_cases a2 : c = 600
      · by_cases b2 : c' = 600
        · rw [a2, b2]
        · rw [a2, h6, LLo_m (c := c') (by omega)] at e
          omega
      · by_cases b2 : c' = 600
        · rw [b2, h6, LLo_m (c := c) (by omega)] at e
          omega
        · rw [LLo_m (c := c) (by omega), LLo_m (c := c') (by omega)] at e
          omega
set_option maxHeartbeats 16000000 in
set_option maxRecDepth 100000 in
theorem gh_out {h : XH} {L : Nat → Nat} {S : GS} {q : Nat} (hG : Gh L S h) (hR : ∀ c k, S.2.2 c k < 495) (h0 : L 700 = 1) (hq : h q = none) : ∃ L1, Gh L1 (gs0 S) (xup h q (xL 1 (fun _ => 0))) ∧ L1 468 = L 468 ∧ L1 500 = L 500 ∧ L1 600 = q ∧ L1 700 = 1 ∧ L1 701 = 1 := by
  obtain ⟨M, hM⟩ := nd_le (q :: (List.range 700).map L)
  have hs5 : ∀ c ∈ ([500, 501, 502, 503, 504, 505, 506, 507, 508, 509, 510, 511, 512, 513, 514, 515, 516, 517, 518, 519, 520, 521, 522, 523, 524, 525, 526, 527, 528, 529, 530, 531, 532, 533, 534, 535, 536, 537, 538, 539] ++ [540, 541, 542, 543, 544, 545, 546, 547, 548, 549, 550, 551, 552, 553, 554]), ∃ e, gsh L c (S.1 c) (S.2.1 c) (S.2.2 c) = some e ∧ gsh (LLo L q M) c (S.1 c) (S.2.1 c) (S.2.2 c) = some e := by
    intro c hc
    simp only [List.mem_append, List.mem_cons, List.not_mem_nil, or_false, or_assoc] at hc
    rcases hc with rfl | rfl | rfl | rfl | rfl | rfl | rfl | rfl | rfl | rfl | rfl | rfl | rfl | rfl | rfl | rfl | rfl | rfl | rfl | rfl | rfl | rfl | rfl | rfl | rfl | rfl | rfl | rfl | rfl | rfl | rfl | rfl | rfl | rfl | rfl | rfl | rfl | rfl | rfl | rfl | rfl | rfl | rfl | rfl | rfl | rfl | rfl | rfl | rfl | rfl | rfl | rfl | rfl | rfl | rfl
    · exact ⟨_, gs_500 h0, gs_500 rfl⟩
    · exact ⟨_, gs_501 h0, gs_501 rfl⟩
    · exact ⟨_, gs_502 h0, gs_502 rfl⟩
    · exact ⟨_, gs_503 h0, gs_503 rfl⟩
    · exact ⟨_, gs_504 h0, gs_504 rfl⟩
    · exact ⟨_, gs_505 h0, gs_505 rfl⟩
    · exact ⟨_, gs_506 h0, gs_506 rfl⟩
    · exact ⟨_, gs_507 h0, gs_507 rfl⟩
    · exact ⟨_, gs_508 h0, gs_508 rfl⟩
    · exact ⟨_, gs_509 h0, gs_509 rfl⟩
    · exact ⟨_, gs_510 h0, gs_510 rfl⟩
    · exact ⟨_, gs_511 h0, gs_511 rfl⟩
    · exact ⟨_, gs_512 h0, gs_512 rfl⟩
    · exact ⟨_, gs_513 h0, gs_513 rfl⟩
    · exact ⟨_, gs_514 h0, gs_514 rfl⟩
    · exact ⟨_, gs_515 h0, gs_515 rfl⟩
    · exact ⟨_, gs_516 h0, gs_516 rfl⟩
    · exact ⟨_, gs_517 h0, gs_517 rfl⟩
    · exact ⟨_, gs_518 h0, gs_518 rfl⟩
    · exact ⟨_, gs_519 h0, gs_519 rfl⟩
    · exact ⟨_, gs_520 h0, gs_520 rfl⟩
    · exact ⟨_, gs_521 h0, gs_521 rfl⟩
    · exact ⟨_, gs_522 h0, gs_522 rfl⟩
    · exact ⟨_, gs_523 h0, gs_523 rfl⟩
    · exact ⟨_, gs_524 h0, gs_524 rfl⟩
    · exact ⟨_, gs_525 h0, gs_525 rfl⟩
    · exact ⟨_, gs_526 h0, gs_526 rfl⟩
    · exact ⟨_, gs_527 h0, gs_527 rfl⟩
    · exact ⟨_, gs_528 h0, gs_528 rfl⟩
    · exact ⟨_, gs_529 h0, gs_529 rfl⟩
    · exact ⟨_, gs_530 h0, gs_530 rfl⟩
    · exact ⟨_, gs_531 h0, gs_531 rfl⟩
    · exact ⟨_, gs_532 h0, gs_532 rfl⟩
    · exact ⟨_, gs_533 h0, gs_533 rfl⟩
    · exact ⟨_, gs_534 h0, gs_534 rfl⟩
    · exact ⟨_, gs_535 h0, gs_535 rfl⟩
    · exact ⟨_, gs_536 h0, gs_536 rfl⟩
    · exact ⟨_, gs_537 h0, gs_537 rfl⟩
    · exact ⟨_, gs_538 h0, gs_538 rfl⟩
    · exact ⟨_, gs_539 h0, gs_539 rfl⟩
    · exact ⟨_, gs_540 h0, gs_540 rfl⟩
    · exact ⟨_, gs_541 h0, gs_541 rfl⟩
    · exact ⟨_, gs_542 h0, gs_542 rfl⟩
    · exact ⟨_, gs_543 h0, gs_543 rfl⟩
    · exact ⟨_, gs_544 h0, gs_544 rfl⟩
    · exact ⟨_, gs_545 h0, gs_545 rfl⟩
    · exact ⟨_, gs_546 h0, gs_546 rfl⟩
    · exact ⟨_, gs_547 h0, gs_547 rfl⟩
    · exact ⟨_, gs_548 h0, gs_548 rfl⟩
    · exact ⟨_, gs_549 h0, gs_549 rfl⟩
    · exact ⟨_, gs_550 h0, gs_550 rfl⟩
    · exact ⟨_, gs_551 h0, gs_551 rfl⟩
    · exact ⟨_, gs_552 h0, gs_552 rfl⟩
    · exact ⟨_, gs_553 h0, gs_553 rfl⟩
    · exact ⟨_, gs_554 h0, gs_554 rfl⟩
  have hs5 : ∀ c, 500 ≤ c → c < 555 → ∃ e, gsh L c (S.1 c) (S.2.1 c) (S.2.2 c) = some e ∧ gsh (LLo L q M) c (S.1 c) (S.2.1 c) (S.2.2 c) = some e := fun c h1 h2 => hs5 c (idr_in c h2 h1)
  have hne : ∀ c, (c < 495 ∨ (500 ≤ c ∧ c < 555)) → L c ≠ q := by
    intro c hc e
    have : ∃ x, h (L c) = some x := by
      rcases hc with hc | ⟨h1, h2⟩
      · obtain ⟨x, hx⟩ := gsh_some (L := L) (I := S.1 c) (B := S.2.1 c) (R := S.2.2 c) hc
        exact ⟨x, hG.2 c (by omega) x hx⟩
      · obtain ⟨x, hx, -⟩ := hs5 c h1 h2
        exact ⟨x, hG.2 c (by omega) x hx⟩
    obtain ⟨x, hx⟩ := this
    rw [e, hq] at hx
    cases hx
  refine ⟨LLo L q M, ⟨LLo_inj hG.1 hne hM, ?_⟩, LLo_l (Or.inl (by decide)), LLo_l (Or.inr (by decide)), rfl, rfl, rfl⟩
  intro c hc x hx
  by_cases h6 : c = 600
  · subst h6
    have e := gs_600 (L := LLo L q M) (I := (gs0 S).1 600) (B := (gs0 S).2.1 600) (R := (gs0 S).2.2 600) rfl
    rw [e] at hx
    cases hx
    exact xup_s
  · have e1 : (gs0 S).1 c = S.1 c := if_neg h6
    rw [e1] at hx
    have hx : gsh (LLo L q M) c (S.1 c) (S.2.1 c) (S.2.2 c) = some x := hx
    by_cases h1 : c < 495
    · rw [gsh_low (L := L) (fun c hc => LLo_l (Or.inl hc)) (hR c) h1] at hx
      rw [LLo_l (Or.inl h1), xup_n (hne c (Or.inl h1))]
      exact hG.2 c hc x hx
    · by_cases h3 : 500 ≤ c ∧ c < 555
      · obtain ⟨e, h4, h5⟩ := hs5 c h3.1 h3.2
        rw [h5] at hx
        cases hx
        rw [LLo_l (Or.inr h3), xup_n (hne c (Or.inr h3))]
        exact hG.2 c hc _ h4
      · exfalso
        by_cases h4 : c < 500
        · unfold gsh at hx
          rw [if_neg (by omega), if_neg (by omega), if_pos h4] at hx
          rcases (show c = 495 ∨ c = 496 ∨ c = 497 ∨ c = 498 ∨ c = 499 by omega) with rfl | rfl | rfl | rfl | rfl <;> cases hx
        · by_cases h5 : c < 600
          · rw [gsh_mid (by omega) h5] at hx
            cases hx
          · unfold gsh at hx
            rw [if_neg (by omega), if_neg (by omega), if_neg h4, if_neg h5, if_neg h6] at hx
            cases hx
set_option maxHeartbeats 4000000 in
set_option maxRecDepth 100000 in
/-- THE LAW: out of what the functions answer -/
theorem x_law {l : Launch} {Z : XZ} {n1 n2 n3 : Nat} {x1 x2 : Int} {S1 S2 S3 : GS} (hL : Z.1.2.1 ≤ 2048) (H1 : f_X11_init n1 2035 193 S0c [] = some (x1, S1)) (hR1 : ∀ c k, S1.2.2 c k < 495) (H2 : f_X12_init n2 2035 1201 (gz S1) [] = some (x2, S2)) (hR2 : ∀ c k, S2.2.2 c k < 495)
    (H3 : f_L_law Z.1.2.1 (fun k => (Z.1.2.2 k).toInt) n3 2036 23 (gs0 S2) [0] = some (1, S3)) : XMet l Z yL_law cL_law 8 (some .boolean) [] 2036 601024 7293034 [.ref Z.1.1] (fun _ => none) (fun v _ => v = some (.int 1)) (fun _ _ => False) := by
  refine XMet.of (by decide) (Nat.le_of_ble_eq_true rfl) ?_
  refine XA.new (xnw_X11 xcl_L_8) dL_law_0 (Nat.le_of_ble_eq_true rfl) (Nat.le_of_ble_eq_true rfl) (fun q1 hq1 => ?_)
  refine XA.dup dL_law_3 rfl ?_
  refine XA.callI (As := []) (n_X11 (d := 2035) (by decide) xup_s H1) xs_L_119 dL_law_4 rfl (by decide) (by decide) rfl (Nat.le_of_ble_eq_true rfl) (Nat.le_of_ble_eq_true rfl) (Nat.le_of_ble_eq_true rfl) (fun E h9 hx => hx.elim) (fun v h1 hq => ?_)
  obtain ⟨rfl, L1, hG1, hL1, hL10, hL11⟩ := hq
  refine XA.astore_n dL_law_7 (by decide) rfl ?_
  refine XA.new (xnw_X12 xcl_L_120) dL_law_8 (Nat.le_of_ble_eq_true rfl) (Nat.le_of_ble_eq_true rfl) (fun q2 hq2 => ?_)
  refine XA.dup dL_law_11 rfl ?_
  have hne : ∀ c, c < 495 → L1 c ≠ q2 := fun c hc e => by
    obtain ⟨x, hx⟩ := gsh_some (L := L1) (I := S1.1 c) (B := S1.2.1 c) (R := S1.2.2 c) hc
    have := hG1.2 c (by omega) x hx
    rw [e, hq2] at this
    cases this
  -- the class stands in the heap with the new object too
  have hGx : ∃ L2, Gh L2 (gz S1) (xup h1 q2 (xO 11 [.int 0, .int 0, .int 0, .null, .null, .int 0, .null, .int 0, .null, .int 0, .null, .null, .null, .int 0, .null, .int 0, .int 0, .null, .null, .null, .int 0, .null, .int 0, .null, .null, .null, .null, .null, .null, .int 0, .int 0, .int 0, .int 0, .null, .null, .null, .int 0, .null, .int 0, .null, .null, .null, .null, .null, .int 0, .int 0, .int 0, .null, .null, .null, .null, .null, .null, .null, .int 0, .null, .null, .int 0, .null, .null, .null, .null, .int 0, .int 0, .int 0, .int 0, .int 0, .null, .null, .null, .null, .null, .null, .null, .null, .int 0, .int 0, .null, .null, .int 0, .null, .int 0, .null, .int 0, .null, .null])) ∧ (∀ c, c < 495 → L2 c = L1 c) := by
    obtain ⟨M, hM⟩ := nd_le ((List.range 700).map L1)
    refine ⟨fun c => if c < 495 then L1 c else if c < 700 then M + c else 0, ⟨?_, ?_⟩, fun c hc => if_pos hc⟩
    · have hM1 : ∀ c, c < 700 → L1 c < M := fun c hc => hM _ (List.mem_map_of_mem (List.mem_range.mpr hc))
      intro c c' h1 h2 e
      dsimp only at e
      have := hM1 c h1
      have := hM1 c' h2
      split at e <;> split at e
      · exact hG1.1 c c' h1 h2 e
      · omega
      · omega
      · omega
    · intro c hc x hx
      by_cases h3 : c < 495
      · have e1 : (gz S1).1 c = S1.1 c := if_pos h3
        have e2 : (gz S1).2.1 c = S1.2.1 c := if_pos h3
        have e3 : (gz S1).2.2 c = S1.2.2 c := if_pos h3
        rw [e1, e2, e3, gsh_low (L := L1) (fun c hc => if_pos hc) (hR1 c) h3] at hx
        dsimp only
        rw [if_pos h3, xup_n (hne c h3)]
        exact hG1.2 c hc x hx
      · exfalso
        unfold gsh at hx
        rw [if_neg (by omega), if_neg (by omega)] at hx
        by_cases h4 : c < 500
        · rw [if_pos h4] at hx
          rcases (show c = 495 ∨ c = 496 ∨ c = 497 ∨ c = 498 ∨ c = 499 by omega) with rfl | rfl | rfl | rfl | rfl <;> cases hx
        · rw [if_neg h4] at hx
          by_cases h5 : c < 600
          · rw [if_pos h5, if_neg (show ¬ ((fun c => if c < 495 then L1 c else if c < 700 then M + c else 0) 700 = 1) from fun h9 => absurd (show (0 : Nat) = 1 from h9) (by decide))] at hx
            cases hx
          · rw [if_neg h5] at hx
            by_cases h6 : c = 600
            · rw [if_pos h6, if_neg (show ¬ ((fun c => if c < 495 then L1 c else if c < 700 then M + c else 0) 701 = 1) from fun h9 => absurd (show (0 : Nat) = 1 from h9) (by decide))] at hx
              cases hx
            · rw [if_neg h6] at hx
              cases hx
  obtain ⟨L2, hG2, hL2⟩ := hGx
  have hR1' : ∀ c k, (gz S1).2.2 c k < 495 := fun c k => by
    show (if c < 495 then S1.2.2 c else fun _ => 0) k < 495
    split
    · exact hR1 c k
    · show (0 : Nat) < 495
      decide
  have hgg : gz (gz S1) = gz S1 := by
    unfold gz
    refine Prod.ext ?_ (Prod.ext ?_ ?_) <;> funext c <;> dsimp only <;> split <;> rfl
  refine XA.callI (As := []) (n_X12 (d := 2035) hG2 hR1' (fun c hc => by rw [hL2 c hc]; exact hne c hc) xup_s (by rw [hgg]; exact H2)) xs_L_122 dL_law_12 rfl (by decide) (by decide) rfl (Nat.le_of_ble_eq_true rfl) (Nat.le_of_ble_eq_true rfl) (Nat.le_of_ble_eq_true rfl) (fun E h9 hx => hx.elim) (fun v h2 hq => ?_)
  obtain ⟨rfl, L3, hG3, hL3, hL35, hL30, hL31⟩ := hq
  refine XA.astore_n dL_law_15 (by decide) rfl ?_
  refine XA.iconst (v := J ((1 : Nat) : Int)) dL_law_16 (by decide) ?_
  refine XA.newL (N := 1) xac_long dL_law_17 (by decide) (by decide) (Nat.le_of_ble_eq_true rfl) (Nat.le_of_ble_eq_true rfl) (Nat.le_of_ble_eq_true rfl) (fun q3 hq3 => ?_)
  refine XA.astore_n dL_law_19 (by decide) rfl ?_
  refine XA.iconst (v := J 0) dL_law_20 (by decide) ?_
  refine XA.istore dL_law_21 (by decide) rfl ?_
  obtain ⟨L4, hG4, hL44, hL45, hL46, hL47, hL48⟩ := gh_out hG3 hR2 hL30 hq3
  have e1 : L4 468 = q1 := by rw [hL44, hL3 468 (by decide), hL2 468 (by decide), hL1]
  have e2 : L4 500 = q2 := by rw [hL45, hL35]
  have hk := (g_L_law (l := l) (Z := Z) (L := L4) (mc := 601024) (ms := 7293034) n3).1 hL47 hL48 2036 (gs0 S2) 0 1 S3 H3 551 1397204 (by omega)
  rw [e1, e2, hL46] at hk
  refine XA.widen (nc' := 551) (ns' := 1397204) (Nat.le_of_ble_eq_true rfl) (Nat.le_of_ble_eq_true rfl) ?_
  refine XA.locals (lv1 := [(0, .ref Z.1.1), (1, .ref q1), (2, .ref q2), (3, .ref q3), (4, .int (J 0))]) (fun q hq => ?_) ?_
  · simp only [List.mem_cons, List.not_mem_nil, or_false] at hq
    rcases hq with rfl | rfl | rfl | rfl | rfl
    · exact List.mem_of_getElem? (i := 4) rfl
    · exact List.mem_of_getElem? (i := 3) rfl
    · exact List.mem_of_getElem? (i := 2) rfl
    · exact List.mem_of_getElem? (i := 1) rfl
    · exact List.mem_of_getElem? (i := 0) rfl
  refine XA.mono (fun v h' hq => ?_) (fun E h' hq => ?_) (hk _ [(0, .ref Z.1.1), (1, .ref q1), (2, .ref q2), (3, .ref q3), (4, .int (J 0))] hG4 (fun i v hv => xlk_mem hv))
  · obtain ⟨S', h1, rfl, rfl⟩ := hq
    rfl
  · obtain ⟨S', h1, h3⟩ := hq
    exact h3
