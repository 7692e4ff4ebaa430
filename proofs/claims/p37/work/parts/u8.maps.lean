/-! p37: the PATCH of two MAPS leads from the one to the other -/
theorem une_ky {t : List ND} : une (kyS t) = rq t := une_esc (rq t)
section MPS
variable {x : ND} {f n : Nat} {q : List Int} {F : List (List ND)}
/-- what holds behind each ORDER -/
abbrev PQ (f n : Nat) (q : List Int) (c : List ND) : Prop := SB ((f : Int) + 1) c ∧ rq c = q ∧ c.length ≤ n
theorem mp_rm (hx : NR x ∧ VN x) (h5 : x.1 = 5) (hf : (f : Int) ≤ 11) (hq : x.2.2.2.2 = q) (h100 : n ≤ 100) : ∀ (L P0 : List (List ND)), (∀ t ∈ P0 ++ L, SB (f : Int) t) → ((P0 ++ L).map rq).Nodup → (P0 ++ L).flatten.length + 1 ≤ n → lyQ (PQ f n q) (rmP F L) (gpN x (P0 ++ L) (P0 ++ L).length) (gpN x (P0 ++ L.filter (fun t => (fdS (rq t) F).isSome)) (P0 ++ L.filter (fun t => (fdS (rq t) F).isSome)).length)
  | [], P0, _, _, _ => rfl
  | t :: L, P0, hL, nd, hl => by
    have er : rmP F (t :: L) = (if fdS (rq t) F = none then [(25, [kyS t], [])] else []) ++ rmP F L := by
      unfold rmP
      rw [List.flatMap_cons]
    rw [er]
    cases e : fdS (rq t) F with
    | none =>
      rw [if_pos rfl, List.filter_cons_of_neg (by rw [e]; decide)]
      have sub : (P0 ++ L).Sublist (P0 ++ t :: L) := List.Sublist.append_left (List.sublist_cons_self t L) P0
      have h1 : ∀ s ∈ P0 ++ L, SB (f : Int) s := fun s hs => hL s (sub.subset hs)
      have h2 : ((P0 ++ L).map rq).Nodup := nd.sublist (sub.map rq)
      have h3 : (P0 ++ L).flatten.length + 1 ≤ n := by
        rw [flat_app, flat_con] at hl
        rw [flat_app]; omega
      refine ⟨gpN x (P0 ++ L) (P0 ++ L).length, ?_, gp_sb hx hf hq h1 h3 h100 (Or.inl ⟨h5, h2⟩), mp_rm hx h5 hf hq h100 L P0 h1 h2 h3⟩
      refine Or.inr (Or.inl ⟨rfl, rfl, [], rq t, ?_, ⟨P0, t, L, kd_gp (fun s hs => (hL s hs).1.1), Or.inl ⟨h5, rfl⟩, rfl⟩⟩)
      show [une (kyS t)] = [rq t]
      rw [une_ky]
    | some u =>
      rw [if_neg (fun z => by cases z), List.nil_append, List.filter_cons_of_pos (by rw [e]; rfl)]
      have k := mp_rm hx h5 hf hq h100 L (P0 ++ [t]) (by rw [List.append_assoc]; exact hL) (by rw [List.append_assoc]; exact nd) (by rw [List.append_assoc]; exact hl)
      rw [List.append_assoc, List.append_assoc] at k
      exact k
theorem mp_gn (hx : NR x ∧ VN x) (h5 : x.1 = 5) (hf : (f : Int) ≤ 11) (hq : x.2.2.2.2 = q) (h100 : n ≤ 100) {g : List ND → List ND → List SEG} (hF : ∀ u ∈ F, SB (f : Int) u) (ndF : (F.map rq).Nodup) {nE : Nat} (hn : n = nE + 1 + (F.flatten.length + 1)) (hg : ∀ t u, SB (f : Int) t → SB (f : Int) u → t.length + u.length ≤ 100 → rq t = rq u → ∃ t', lyQ (fun c => SB (f : Int) c ∧ rq c = rq t ∧ c.length ≤ t.length + u.length) (g t u) t t' ∧ SB (f : Int) t' ∧ EK t' u) : ∀ (L P1 us vs : List (List ND)), (∀ t ∈ P1 ++ L, SB (f : Int) t) → ((P1 ++ L).map rq).Nodup → L.flatten.length ≤ nE → P1.map nm = us.map nm → (us ++ vs).Perm F → ∃ P2 us' vs' : List (List ND), lyQ (PQ f n q) (gnP g F L) (gpN x (P1 ++ L.filter (fun t => (fdS (rq t) F).isSome)) (P1 ++ L.filter (fun t => (fdS (rq t) F).isSome)).length) (gpN x P2 P2.length) ∧ (∀ t ∈ P2, SB (f : Int) t) ∧ P2.map nm = us'.map nm ∧ (us' ++ vs').Perm F ∧ (∀ t ∈ L, ∀ u ∈ F, rq u = rq t → u ∈ us') ∧ (∀ u ∈ us, u ∈ us') ∧ ∀ u ∈ us', u ∈ us ∨ ∃ t ∈ L, rq t = rq u
  | [], P1, us, vs, hL, nd, hl, hm, hp => by
    refine ⟨P1, us, vs, ?_, fun t ht => hL t (List.mem_append_left _ ht), hm, hp, (fun t ht => by cases ht), fun u hu => hu, fun u hu => Or.inl hu⟩
    show gpN x P1 P1.length = gpN x (P1 ++ []) (P1 ++ []).length
    rw [List.append_nil]
  | t :: L, P1, us, vs, hL, nd, hl, hm, hp => by
    have er : gnP g F (t :: L) = (match fdS (rq t) F with | none => [] | some u => pre1 (kyS t) (g t u)) ++ gnP g F L := by
      unfold gnP
      rw [List.flatMap_cons]
      rfl
    rw [er]
    have injF := nodup_inj ndF
    cases e : fdS (rq t) F with
    | none =>
      dsimp only
      rw [List.nil_append, List.filter_cons_of_neg (by rw [e]; decide)]
      have sub : (P1 ++ L).Sublist (P1 ++ t :: L) := List.Sublist.append_left (List.sublist_cons_self t L) P1
      obtain ⟨P2, us', vs', a1, a2, a3, a4, a5, a6, a7⟩ := mp_gn hx h5 hf hq h100 hF ndF hn hg L P1 us vs (fun s hs => hL s (sub.subset hs)) (nd.sublist (sub.map rq)) (by rw [flat_con] at hl; omega) hm hp
      refine ⟨P2, us', vs', a1, a2, a3, a4, fun s hs u hu z => ?_, a6, fun u hu => (a7 u hu).imp id (fun ⟨s, h1, h2⟩ => ⟨s, List.mem_cons_of_mem _ h1, h2⟩)⟩
      rcases List.mem_cons.mp hs with y | y
      · rw [y] at z
        exact absurd z (fd_no e u hu)
      · exact a5 s y u hu z
    | some u =>
      dsimp only
      rw [List.filter_cons_of_pos (by rw [e]; rfl)]
      obtain ⟨uF, uq⟩ := fdS_in F u e
      have st := hL t (List.mem_append_right _ List.mem_cons_self)
      have su := hF u uF
      -- u is not yet met
      have kt := nod_ne nd
      have nu : u ∉ us := fun hu => by
        have : nm u ∈ P1.map nm := by rw [hm]; exact List.mem_map_of_mem hu
        obtain ⟨s, hs, es⟩ := List.mem_map.mp this
        have : rq s = rq u := ek_rq (T := s) (U := u) es
        exact kt.1 s hs (this.trans uq)
      have uv : u ∈ vs := by
        rcases List.mem_append.mp (hp.mem_iff.mpr uF) with z | z
        · exact absurd z nu
        · exact z
      obtain ⟨v1, v2, rfl⟩ := List.append_of_mem uv
      have hp2 : ((us ++ [u]) ++ (v1 ++ v2)).Perm F := by
        refine List.Perm.trans ?_ hp
        rw [List.append_assoc]
        have pm : (u :: (v1 ++ v2)).Perm (v1 ++ u :: v2) := List.perm_middle.symm
        exact List.Perm.append_left us pm
      have lu : us.flatten.length + u.length ≤ F.flatten.length := by
        have := flat_perm hp2
        rw [flat_app, flat_app, flat_one] at this
        omega
      have lP : P1.flatten.length = us.flatten.length := by
        rw [← flat_nm P1 (m := (f : Int)) (fun s hs => hL s (List.mem_append_left _ hs)), ← flat_nm us (m := (f : Int)) (fun s hs => hF s (hp.mem_iff.mp (List.mem_append_left _ hs))), hm]
      have lf := flat_filter (fun t => (fdS (rq t) F).isSome) L
      rw [flat_con] at hl
      obtain ⟨t', g1, g2, g3⟩ := hg t u st su (by have := flat_perm hp2; have := mem_len uF; omega) uq.symm
      have q3 : rq t' = rq t := (ek_rq g3).trans uq
      have sub : (P1 ++ L.filter (fun t => (fdS (rq t) F).isSome)).Sublist (P1 ++ L) := List.Sublist.append_left List.filter_sublist P1
      have sub2 : (P1 ++ L).Sublist (P1 ++ t :: L) := List.Sublist.append_left (List.sublist_cons_self t L) P1
      have lt' : t'.length = u.length := ek_len g2 su g3
      have mk : ∀ c, (SB (f : Int) c ∧ rq c = rq t ∧ c.length ≤ t.length + u.length) → (TR c ∧ PZL c) ∧ rq c = rq t ∧ PQ f n q (gpN x (P1 ++ c :: L.filter (fun t => (fdS (rq t) F).isSome)) (P1 ++ c :: L.filter (fun t => (fdS (rq t) F).isSome)).length) := fun c hc => by
        refine ⟨hc.1.1.1, hc.2.1, gp_sb hx hf hq (fun s hs => ?_) ?_ h100 (Or.inl ⟨h5, ?_⟩)⟩
        · rcases List.mem_append.mp hs with z | z
          · exact hL s (List.mem_append_left _ z)
          · rcases List.mem_cons.mp z with z | z
            · rw [z]; exact hc.1
            · exact hL s (sub2.subset (sub.subset (List.mem_append_right _ z)))
        · rw [flat_app, flat_con]
          have := hc.2.2
          omega
        · have s3 : (P1 ++ t :: L.filter (fun t => (fdS (rq t) F).isSome)).Sublist (P1 ++ t :: L) := List.Sublist.append_left (List.filter_sublist.cons₂ t) P1
          have := nd.sublist (s3.map rq)
          rw [List.map_append, List.map_cons] at this ⊢
          rw [hc.2.1]
          exact this
      have pr := lyQ_pre (P := fun c => SB (f : Int) c ∧ rq c = rq t ∧ c.length ≤ t.length + u.length) (Q := PQ f n q) (s := kyS t) (x := x) (A := P1) (B := L.filter (fun t => (fdS (rq t) F).isSome)) (q := rq t) (fun s hs => (hL s (sub2.subset (sub.subset hs))).1.1) (Or.inl ⟨h5, une_ky.symm⟩) mk (g t u) t t' st.1.1 rfl g1
      have nd' : (((P1 ++ [t']) ++ L).map rq).Nodup := by
        rw [List.append_assoc]
        show ((P1 ++ t' :: L).map rq).Nodup
        rw [List.map_append, List.map_cons, q3]
        rw [List.map_append, List.map_cons] at nd
        exact nd
      obtain ⟨P2, us', vs', a1, a2, a3, a4, a5, a6, a7⟩ := mp_gn hx h5 hf hq h100 hF ndF hn hg L (P1 ++ [t']) (us ++ [u]) (v1 ++ v2) (fun s hs => by
        rw [List.append_assoc] at hs
        rcases List.mem_append.mp hs with z | z
        · exact hL s (List.mem_append_left _ z)
        · rcases List.mem_cons.mp z with z | z
          · rw [z]; exact g2
          · exact hL s (List.mem_append_right _ (List.mem_cons_of_mem _ z))) nd' (by omega) (by
          have g3 : nm t' = nm u := g3
          rw [List.map_append, List.map_append, hm, List.map_cons, List.map_cons, g3]) hp2
      rw [List.append_assoc] at a1
      refine ⟨P2, us', vs', lyQ_app _ _ _ _ _ pr a1, a2, a3, a4, fun s hs w hw z => ?_, fun w hw => a6 w (List.mem_append_left _ hw), fun w hw => ?_⟩
      · rcases List.mem_cons.mp hs with y | y
        · rw [y] at z
          rw [injF w hw u uF (z.trans uq.symm)]
          exact a6 u (List.mem_append_right _ List.mem_cons_self)
        · exact a5 s y w hw z
      · rcases a7 w hw with z | ⟨s, h1, h2⟩
        · rcases List.mem_append.mp z with z | z
          · exact Or.inl z
          · simp only [List.mem_cons, List.not_mem_nil, or_false] at z
            exact Or.inr ⟨t, List.mem_cons_self, by rw [z]; exact uq.symm⟩
        · exact Or.inr ⟨s, List.mem_cons_of_mem _ h1, h2⟩
theorem mp_an (hx : NR x ∧ VN x) (h5 : x.1 = 5) (hf : (f : Int) ≤ 11) (hq : x.2.2.2.2 = q) (h100 : n ≤ 100) {E : List (List ND)} : ∀ (M Q : List (List ND)), (∀ t ∈ Q ++ M.filter (fun u => !(fdS (rq u) E).isSome), SB (f : Int) t) → ((Q ++ M.filter (fun u => !(fdS (rq u) E).isSome)).map rq).Nodup → (Q ++ M.filter (fun u => !(fdS (rq u) E).isSome)).flatten.length + 1 ≤ n → lyQ (PQ f n q) (anP E M) (gpN x Q Q.length) (gpN x (Q ++ M.filter (fun u => !(fdS (rq u) E).isSome)) (Q ++ M.filter (fun u => !(fdS (rq u) E).isSome)).length)
  | [], Q, _, _, _ => by
    show gpN x (Q ++ []) (Q ++ []).length = gpN x Q Q.length
    rw [List.append_nil]
  | u :: M, Q, hL, nd, hl => by
    have er : anP E (u :: M) = (if fdS (rq u) E = none then [(26, [kyS u], [u])] else []) ++ anP E M := by
      unfold anP
      rw [List.flatMap_cons]
    rw [er]
    cases e : fdS (rq u) E with
    | none =>
      have ef : (u :: M).filter (fun u => !(fdS (rq u) E).isSome) = u :: M.filter (fun u => !(fdS (rq u) E).isSome) := List.filter_cons_of_pos (by rw [e]; rfl)
      rw [if_pos rfl]
      rw [ef] at hL nd hl ⊢
      have as : Q ++ u :: M.filter (fun u => !(fdS (rq u) E).isSome) = (Q ++ [u]) ++ M.filter (fun u => !(fdS (rq u) E).isSome) := by rw [List.append_assoc]; rfl
      have su := hL u (List.mem_append_right _ List.mem_cons_self)
      have kt := nod_ne nd
      rw [as] at hL nd hl ⊢
      refine ⟨gpN x (Q ++ [u]) (Q ++ [u]).length, ?_, gp_sb hx hf hq (fun s hs => hL s (List.mem_append_left _ hs)) (by rw [flat_app] at hl; omega) h100 (Or.inl ⟨h5, by rw [List.map_append] at nd; exact (List.nodup_append.mp nd).1⟩), mp_an hx h5 hf hq h100 M (Q ++ [u]) hL nd hl⟩
      have kQ : kd (gpN x Q Q.length) = Q := kd_gp (fun s hs => (hL s (List.mem_append_left _ (List.mem_append_left _ hs))).1.1)
      refine Or.inr (Or.inr ⟨rfl, u, [], rq u, rfl, ?_, Or.inl ⟨h5, (rq_ok su.1).1, fun s hs => ?_, ?_⟩⟩)
      · show [une (kyS u)] = [rq u]
        rw [une_ky]
      · rw [kQ] at hs
        exact kt.1 s hs
      · rw [kQ, ky_self (sb_len1 su)]
        rfl
    | some w =>
      have ef : (u :: M).filter (fun u => !(fdS (rq u) E).isSome) = M.filter (fun u => !(fdS (rq u) E).isSome) := List.filter_cons_of_neg (by rw [e]; exact Bool.false_ne_true)
      rw [if_neg (fun z => by cases z), List.nil_append]
      rw [ef] at hL nd hl ⊢
      exact mp_an hx h5 hf hq h100 M Q hL nd hl
end MPS
