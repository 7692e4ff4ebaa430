/-! p37: joining gives the same whichever is told first (3) -/
theorem sm_sym {T U : List ND} (hT : SB 12 T) (hU : SB 12 U) (h : smF 13 T U = true) : smF 13 U T = true := by
  rw [sm_wo 12 U T hU.1 hT.1 hU.2.1 hT.2.1 hU.2.2 hT.2.2]
  exact ((sm_wo 12 T U hT.1 hU.1 hT.2.1 hU.2.1 hT.2.2 hU.2.2).mp h).symm
section JNU
variable {O A B : List ND}
theorem sg_sb {V : List ND} (hV : DOC V) {i : Nat} (hi : i < V.length) : SB 12 (sg V i) := by
  obtain ⟨a, b, c⟩ := doc_sg hV hi
  exact ⟨a, c, b⟩
theorem alk_sym (hA : DOC A) (hB : DOC B) {a b : Int} (ha : nOK A a) (hb : nOK B b) (h : alk A a B b) : alk B b A a := by
  unfold alk at h ⊢
  by_cases c : a = -1 ∨ b = -1
  · rw [if_pos c] at h
    rw [if_pos c.symm]
    exact h.symm
  · rw [if_neg c] at h
    rw [if_neg (fun z => c z.symm)]
    have ha' : 0 ≤ a ∧ a < (A.length : Int) := by unfold nOK at ha; omega
    have hb' : 0 ≤ b ∧ b < (B.length : Int) := by unfold nOK at hb; omega
    unfold smJ at h ⊢
    rw [if_pos hb'] at h
    rw [if_pos ha']
    exact sm_sym (sg_sb hA (by omega)) (sg_sb hB (by omega)) h
theorem act_nm (hA : DOC A) (hB : DOC B) {a b : Int} {w : List Int} (ha : nOK A a) (hb : nOK B b) (ka : a ≠ -1 → nq A a.toNat = w) (kb : b ≠ -1 → nq B b.toNat = w) (h : alk A a B b) : (acT A a).map nm = (acT B b).map nm := by
  unfold alk at h
  unfold acT
  by_cases c : a = -1 ∨ b = -1
  · rw [if_pos c] at h
    have c1 : a = -1 := by omega
    have c2 : b = -1 := by omega
    rw [if_pos c1, if_pos c2]
  · rw [if_neg c] at h
    have ha' : 0 ≤ a ∧ a < (A.length : Int) := by unfold nOK at ha; omega
    have hb' : 0 ≤ b ∧ b < (B.length : Int) := by unfold nOK at hb; omega
    unfold smJ at h
    rw [if_pos hb'] at h
    rw [if_neg (by omega), if_neg (by omega)]
    have e : EK (sg A a.toNat) (sg B b.toNat) := (ek_sm (sg_sb hA (by omega)) (sg_sb hB (by omega)) (by rw [rq_sg (by omega) (pz_l hA.1.1.2 _), rq_sg (by omega) (pz_l hB.1.1.2 _), ka (by omega), kb (by omega)])).mp h
    have e : nm (sg A a.toNat) = nm (sg B b.toNat) := e
    rw [List.map_cons, List.map_cons, e]
theorem map_cg {α β : Type} {g h : α → β} {L : List α} (e : ∀ x, g x = h x) : L.map g = L.map h := List.map_congr_left (fun x _ => e x)
theorem j_sym (dO : DOC O) (dA : DOC A) (dB : DOC B) : ∀ (f : Nat) (o a b : Int) (w : List Int) (m : Nat), m ≤ 12 → nOK O o → nOK A a → nOK B b → (a ≠ -1 → nq A a.toNat = w) → (b ≠ -1 → nq B b.toNat = w) → (a ≠ -1 → ∀ g, dpS g (sg A a.toNat) ≤ (m : Int)) → (b ≠ -1 → ∀ g, dpS g (sg B b.toNat) ≤ (m : Int)) → (szI A a).toNat + (szI B b).toNat ≤ 100 → (jnF O A B f [] o a b).1.map nm = (jnF O B A f [] o b a).1.map nm ∧ (jnF O A B f [] o a b).2.length = (jnF O B A f [] o b a).2.length := by
  have hO := dO.1
  have hA := dA.1
  have hB := dB.1
  have za := pz_l hA.1.2
  have zb := pz_l hB.1.2
  have zo := pz_l hO.1.2
  intro f
  -- what holds whether there is one below or not
  have head : ∀ (F : Nat) (o a b : Int) (w : List Int), nOK O o → nOK A a → nOK B b → (a ≠ -1 → nq A a.toNat = w) → (b ≠ -1 → nq B b.toNat = w) → (jnF O A B F [] o a b = jE O A B F [] o a b → jnF O B A F [] o b a = jE O B A F [] o b a → (jE O A B F [] o a b).1.map nm = (jE O B A F [] o b a).1.map nm ∧ (jE O A B F [] o a b).2.length = (jE O B A F [] o b a).2.length) → (jnF O A B F [] o a b).1.map nm = (jnF O B A F [] o b a).1.map nm ∧ (jnF O A B F [] o a b).2.length = (jnF O B A F [] o b a).2.length := by
    intro F o a b w ho ha hb ka kb k
    rw [jn_case, jn_case] at k ⊢
    by_cases c1 : alk A a B b
    · have c1' := alk_sym dA dB ha hb c1
      rw [if_pos (Or.inl c1), if_pos (Or.inl c1')]
      exact ⟨act_nm dA dB ha hb ka kb c1, rfl⟩
    · have c1' : ¬ alk B b A a := fun z => c1 (alk_sym dB dA hb ha z)
      by_cases c2 : alk B b O o
      · have c3 : ¬ alk A a O o := fun z => c1 (alk_tr dO dA dB ho ha hb z c2)
        rw [if_pos (Or.inr c2), if_neg (fun z => z.elim c1' c3), if_pos c2]
        exact ⟨rfl, rfl⟩
      · by_cases c3 : alk A a O o
        · rw [if_neg (fun z => z.elim c1 c2), if_pos c3, if_pos (Or.inr c3)]
          exact ⟨rfl, rfl⟩
        · rw [if_neg (fun z => z.elim c1 c2), if_neg c3, if_neg (fun z => z.elim c1' c3), if_neg c2] at k ⊢
          exact k rfl rfl
  induction f with
  | zero =>
    intro o a b w m hm ho ha hb ka kb da db hs
    exact head 0 o a b w ho ha hb ka kb (fun _ _ => ⟨rfl, rfl⟩)
  | succ f ih =>
    intro o a b w m hm ho ha hb ka kb da db hs
    refine head (f + 1) o a b w ho ha hb ka kb (fun e1 e2 => ?_)
    have jb := jn_b dO dA dB (f + 1) o a b m ha hb da db
    have jb' := jn_b dO dB dA (f + 1) o b a m hb ha db da
    have js := jn_ok dO dA dB (f + 1) [] w o a b ho ha hb ka kb
    have js' := jn_ok dO dB dA (f + 1) [] w o b a ho hb ha kb ka
    rw [e1] at jb js
    rw [e2] at jb' js'
    by_cases c : kdI A a = 5 ∧ kdI B b = 5 ∧ (o = -1 ∨ kdI O o = 5)
    · have c' : kdI B b = 5 ∧ kdI A a = 5 ∧ (o = -1 ∨ kdI O o = 5) := ⟨c.2.1, c.1, c.2.2⟩
      have E1 : jE O A B (f + 1) [] o a b = ([gpN (5, 1, 0, [], kI A a) (jvF O A B f [] o a b) (jvF O A B f [] o a b).length], jqF O A B f [] o a b) := if_pos c
      have E2 : jE O B A (f + 1) [] o b a = ([gpN (5, 1, 0, [], kI B b) (jvF O B A f [] o b a) (jvF O B A f [] o b a).length], jqF O B A f [] o b a) := if_pos c'
      rw [E1] at jb js ⊢
      rw [E2] at jb' js' ⊢
      have ho5 : mpO O o := c.2.2.elim Or.inl mp_of
      have ma := mp_of c.1
      have mb := mp_of c.2.1
      obtain ⟨a1, a2, a3⟩ := kdI_v c.1 (by decide)
      obtain ⟨b1, b2, b3⟩ := kdI_v c.2.1 (by decide)
      have m1 : 1 ≤ m := by
        have := da (by omega) 0
        unfold dpS at this
        rw [rk_sg (by omega) (za _), if_pos (by omega)] at this
        omega
      obtain ⟨m, rfl⟩ : ∃ k, m = k + 1 := ⟨m - 1, by omega⟩
      have szq : ∀ q, (szI A (vLk A a q)).toNat + (szI B (vLk B b q)).toNat ≤ 100 := fun q => by
        obtain ⟨an, rfl⟩ : ∃ n : Nat, a = (n : Int) := ⟨a.toNat, by omega⟩
        obtain ⟨bn, rfl⟩ : ∃ n : Nat, b = (n : Int) := ⟨b.toNat, by omega⟩
        rw [Int.toNat_natCast] at a3 b3
        have sA : (szI A (vLk A (an : Int) q)).toNat + 0 ≤ nz A an - 1 := jKs_sum hA (n := an) (by omega) a3 (L := [q]) (List.nodup_cons.mpr ⟨List.not_mem_nil, List.nodup_nil⟩)
        have sB : (szI B (vLk B (bn : Int) q)).toNat + 0 ≤ nz B bn - 1 := jKs_sum hB (n := bn) (by omega) b3 (L := [q]) (List.nodup_cons.mpr ⟨List.not_mem_nil, List.nodup_nil⟩)
        rw [szI_c (by omega), szI_c (by omega), Int.toNat_natCast, Int.toNat_natCast] at hs
        omega
      have iq := fun q => ih (vLk O o q) (vLk A a q) (vLk B b q) q m (by omega) (vLk_r hO.1.1.1 zo o q) (vLk_r hA.1.1.1 za a q) (vLk_r hB.1.1.1 zb b q) vLk_key vLk_key (vl_dp hA c.1 da q) (vl_dp hB c.2.1 db q) (szq q)
      obtain ⟨k1, k2⟩ := jv_keys hO hA hB (f := f) (p := []) (φ := nm) ho5 ma mb
      obtain ⟨k3, k4⟩ := jv_keys hO hB hA (f := f) (p := []) (φ := nm) ho5 mb ma
      have pk := jKs_perm hO hA hB ho5 ma mb
      have eN : (fun q => (jAt O B A f [] o b a q).1.map nm) = fun q => (jAt O A B f [] o a b q).1.map nm := funext (fun q => (iq q).1.symm)
      have eC : (fun q => (jAt O B A f [] o b a q).2.length) = fun q => (jAt O A B f [] o a b q).2.length := funext (fun q => (iq q).2.symm)
      rw [eN] at k3
      rw [eC] at k4
      have pm : ((jvF O A B f [] o a b).map nm).Perm ((jvF O B A f [] o b a).map nm) := by
        rw [k1, k3]
        exact (pk.map _).flatten
      have tr1 : ∀ t ∈ jvF O A B f [] o a b, TR t ∧ PZL t := fun t ht => by
        obtain ⟨q, hq⟩ := jv_mem hO hA hB ho5 ma mb t ht
        exact ((jn_ok dO dA dB f [] q _ _ _ (vLk_r hO.1.1.1 zo o q) (vLk_r hA.1.1.1 za _ q) (vLk_r hB.1.1.1 zb _ q) vLk_key vLk_key).2 t hq).1.1
      have tr2 : ∀ t ∈ jvF O B A f [] o b a, TR t ∧ PZL t := fun t ht => by
        obtain ⟨q, hq⟩ := jv_mem hO hB hA ho5 mb ma t ht
        exact ((jn_ok dO dB dA f [] q _ _ _ (vLk_r hO.1.1.1 zo o q) (vLk_r hB.1.1.1 zb _ q) (vLk_r hA.1.1.1 za _ q) vLk_key vLk_key).2 t hq).1.1
      have one : ∀ {T : List ND} {n : Nat}, ((∀ t ∈ [T], ∀ g, dpS g t ≤ ((m + 1 : Nat) : Int)) ∧ ([T] : List (List ND)).flatten.length ≤ n) → n ≤ 100 → JG w [T] → SB 12 T := fun {T n} h hn g => by
        have l := h.2
        rw [flat_one] at l
        exact ⟨(g.2 T List.mem_cons_self).1.2 (by omega), by omega, fun r => by have := h.1 T List.mem_cons_self r; omega⟩
      have s1 := one jb hs js
      have s2 := one jb' (by omega) js'
      have q1 := (js.2 _ List.mem_cons_self).2
      have q2 := (js'.2 _ List.mem_cons_self).2
      have e : EK (gpN (5, 1, 0, [], kI A a) (jvF O A B f [] o a b) (jvF O A B f [] o a b).length) (gpN (5, 1, 0, [], kI B b) (jvF O B A f [] o b a) (jvF O B A f [] o b a).length) := (ek_map s1 s2 rfl).mpr ⟨rfl, q1.trans q2.symm, by rw [kd_gp tr1, kd_gp tr2]; exact pm⟩
      have e : nm (gpN (5, 1, 0, [], kI A a) (jvF O A B f [] o a b) (jvF O A B f [] o a b).length) = nm (gpN (5, 1, 0, [], kI B b) (jvF O B A f [] o b a) (jvF O B A f [] o b a).length) := e
      refine ⟨?_, ?_⟩
      · show [nm _] = [nm _]
        rw [e]
      · show (jqF O A B f [] o a b).length = (jqF O B A f [] o b a).length
        rw [k2, k4]
        exact suK_perm pk
    · have c' : ¬ (kdI B b = 5 ∧ kdI A a = 5 ∧ (o = -1 ∨ kdI O o = 5)) := fun z => c ⟨z.2.1, z.1, z.2.2⟩
      have E1 : jE O A B (f + 1) [] o a b = ([], [[]]) := if_neg c
      have E2 : jE O B A (f + 1) [] o b a = ([], [[]]) := if_neg c'
      rw [E1, E2]
      exact ⟨rfl, rfl⟩
/-- all that the law says of joining -/
theorem join_ok (dO : DOC O) (dA : DOC A) (dB : DOC B) (hl : A.length + B.length ≤ 100) : (jnD O A B).2.length = (jnD O B A).2.length ∧ ((jnD O A B).2 = [] → (jnD O B A).2 = [] ∧ DOC (jnD O A B).1.flatten ∧ DOC (jnD O B A).1.flatten ∧ EK (jnD O A B).1.flatten (jnD O B A).1.flatten) := by
  have n0 : ∀ {V : List ND}, DOC V → nOK V 0 := fun {V} hV => Or.inr ⟨Int.le_refl _, by have := hV.1.1.1.2.1; omega⟩
  have s0 : ∀ {V : List ND}, DOC V → sg V (0 : Int).toNat = V := fun {V} hV => sg_self hV.1.1.1
  have q0 : ∀ {V : List ND}, DOC V → (0 : Int) ≠ -1 → nq V (0 : Int).toNat = [] := fun {V} hV _ => hV.2.2.2
  have d0 : ∀ {V : List ND}, DOC V → (0 : Int) ≠ -1 → ∀ g, dpS g (sg V (0 : Int).toNat) ≤ ((12 : Nat) : Int) := fun {V} hV _ g => by rw [s0 hV]; exact hV.2.1 g
  have z0 : ∀ {V : List ND}, DOC V → (szI V 0).toNat = V.length := fun {V} hV => by
    have l := hV.1.1.1.2.1
    have := szI_c (V := V) (i := 0) (by omega)
    rw [show ((0 : Nat) : Int) = 0 from rfl] at this
    rw [this, Int.toNat_natCast]
    exact hV.1.1.1.2.2
  have js := j_sym dO dA dB 13 0 0 0 [] 12 (Nat.le_refl _) (n0 dO) (n0 dA) (n0 dB) (q0 dA) (q0 dB) (d0 dA) (d0 dB) (by rw [z0 dA, z0 dB]; exact hl)
  have jb := jn_b dO dA dB 13 0 0 0 12 (n0 dA) (n0 dB) (d0 dA) (d0 dB)
  have jb' := jn_b dO dB dA 13 0 0 0 12 (n0 dB) (n0 dA) (d0 dB) (d0 dA)
  rw [z0 dA, z0 dB] at jb jb'
  refine ⟨js.2, fun h => ?_⟩
  have h2 : (jnD O B A).2 = [] := by
    have : (jnD O A B).2.length = (jnD O B A).2.length := js.2
    rw [h] at this
    exact List.eq_nil_of_length_eq_zero this.symm
  obtain ⟨T, t1, t2, t3, t4⟩ := jnD_one dO dA dB h
  obtain ⟨U, u1, u2, u3, u4⟩ := jnD_one dO dB dA h2
  have e1 : jnF O A B 13 [] 0 0 0 = jnD O A B := rfl
  have e2 : jnF O B A 13 [] 0 0 0 = jnD O B A := rfl
  rw [e1, t1] at jb
  rw [e2, u1] at jb'
  rw [e1, e2, t1, u1] at js
  have l1 := jb.2
  have l2 := jb'.2
  rw [flat_one] at l1 l2
  have f1 : (jnD O A B).1.flatten = T := by rw [t1]; simp
  have f2 : (jnD O B A).1.flatten = U := by rw [u1]; simp
  have s1 : SB 12 T := ⟨t3 (by omega), by omega, jb.1 T List.mem_cons_self⟩
  have s2 : SB 12 U := ⟨u3 (by omega), by omega, jb'.1 U List.mem_cons_self⟩
  rw [f1, f2]
  exact ⟨h2, sb_doc s1 t4, sb_doc s2 u4, (List.cons.inj js.1).1⟩
theorem alk_0 (dO : DOC O) (dA : DOC A) : alk A 0 O 0 ↔ EK A O := by
  unfold alk
  rw [if_neg (by decide)]
  unfold smJ
  have l := dO.1.1.1.2.1
  rw [if_pos (by omega)]
  rw [show (0 : Int).toNat = 0 from rfl, sg_self dA.1.1.1, sg_self dO.1.1.1]
  exact ek_sm (doc_sb dA) (doc_sb dO) (by rw [dA.2.2.2, dO.2.2.2])
theorem act_0 {V : List ND} (hV : DOC V) : (acT V 0).flatten = V := by
  unfold acT
  rw [if_neg (by decide), show (0 : Int).toNat = 0 from rfl, sg_self hV.1.1.1]
  simp
/-- to join with what did not change gives the other one -/
theorem join_same (dO : DOC O) (dB : DOC B) : (jnD O O B).2 = [] ∧ DOC (jnD O O B).1.flatten ∧ EK (jnD O O B).1.flatten B := by
  have e : jnD O O B = if alk O 0 B 0 ∨ alk B 0 O 0 then (acT O 0, []) else if alk O 0 O 0 then (acT B 0, []) else jE O O B 13 [] 0 0 0 := jn_case
  rw [e]
  by_cases c : alk O 0 B 0 ∨ alk B 0 O 0
  · rw [if_pos c]
    refine ⟨rfl, ?_, ?_⟩
    · show DOC (acT O 0).flatten
      rw [act_0 dO]; exact dO
    · show EK (acT O 0).flatten B
      rw [act_0 dO]
      exact c.elim (fun z => (alk_0 dB dO).mp z) (fun z => ((alk_0 dO dB).mp z).symm)
  · rw [if_neg c, if_pos ((alk_0 dO dO).mpr rfl)]
    refine ⟨rfl, ?_, ?_⟩
    · show DOC (acT B 0).flatten
      rw [act_0 dB]; exact dB
    · show EK (acT B 0).flatten B
      rw [act_0 dB]
theorem join_both (dO : DOC O) (dA : DOC A) : (jnD O A A).2 = [] ∧ DOC (jnD O A A).1.flatten ∧ EK (jnD O A A).1.flatten A := by
  have e : jnD O A A = if alk A 0 A 0 ∨ alk A 0 O 0 then (acT A 0, []) else if alk A 0 O 0 then (acT A 0, []) else jE O A A 13 [] 0 0 0 := jn_case
  rw [e, if_pos (Or.inl ((alk_0 dA dA).mpr rfl))]
  refine ⟨rfl, ?_, ?_⟩
  · show DOC (acT A 0).flatten
    rw [act_0 dA]; exact dA
  · show EK (acT A 0).flatten A
    rw [act_0 dA]
end JNU
