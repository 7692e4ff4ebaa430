/-! THE REFERENCE: the next VALUE of a group, by a way -/
def nxW (V : List ND) (g : Nat) (w : Int) (last : Int) : Int := if nk V g = 5 ∧ w = 1 then nbK V last (-1) (kids V g) else if last = -1 then cur (g + 1) (g + nz V g) else cur (last.toNat + nz V last.toNat) (g + nz V g)
def orV (V : List ND) (g : Nat) (w : Int) : List Nat := if nk V g = 5 ∧ w = 1 then obK 100 V (-1) (kids V g) else kids V g
/-- one after the other comes -/
def ChN (nx : Int → Int) : Int → List Nat → Prop
  | n, [] => n = -1
  | n, c :: L => n = (c : Int) ∧ ChN nx (nx (c : Int)) L
section ORW
variable {V : List ND}
theorem obK_ch {K : List Nat} : ∀ (f : Nat) (last : Int), (obK (f + 1) V last K).length = (obK f V last K).length → (nbK V last (-1) K = -1 ∨ 0 ≤ nbK V last (-1) K) → (∀ last, nbK V last (-1) K = -1 ∨ 0 ≤ nbK V last (-1) K) → ChN (fun last => nbK V last (-1) K) (nbK V last (-1) K) (obK f V last K)
  | 0, last, h, _, _ => by
    unfold obK at h
    by_cases c : nbK V last (-1) K = -1
    · exact c
    · rw [if_neg c] at h
      simp [obK] at h
  | f + 1, last, h, h0, ha => by
    have h' := h
    unfold obK at h' ⊢
    by_cases c : nbK V last (-1) K = -1
    · rw [if_pos c]; exact c
    · rw [if_neg c] at h' ⊢
      rw [if_neg c, List.length_cons, List.length_cons] at h'
      have e : ((nbK V last (-1) K).toNat : Int) = nbK V last (-1) K := by omega
      refine ⟨e.symm, ?_⟩
      show ChN _ (nbK V ((nbK V last (-1) K).toNat : Int) (-1) K) _
      rw [e]
      exact obK_ch f _ (by omega) (ha _) ha
theorem ks_ch (hz : PZ V) {g e : Nat} {nx : Int → Int} (hn : ∀ c, g < c → nx (c : Int) = cur (c + nz V c) e) : ∀ (K : List Nat) (a : Nat), ks V a e = K → g < a → ChN nx (cur a e) K
  | [], a, h, ha => by
    have : ¬ a < e := fun c => by rw [ks_cons hz c] at h; cases h
    show cur a e = -1
    unfold cur
    rw [if_neg this]
  | k :: K, a, h, ha => by
    have c : a < e := by
      by_cases c : a < e
      · exact c
      · rw [ks_nil (by omega)] at h; cases h
    rw [ks_cons hz c] at h
    have e1 := List.cons.inj h
    obtain ⟨rfl, e2⟩ := e1
    refine ⟨by unfold cur; rw [if_pos c], ?_⟩
    rw [hn a ha]
    exact ks_ch hz hn K (a + nz V a) e2 (by omega)
theorem nbK_nn {last : Int} : ∀ (K : List Nat) (x : Int), (x = -1 ∨ 0 ≤ x) → nbK V last x K = -1 ∨ 0 ≤ nbK V last x K
  | [], x, h => h
  | k :: K, x, h => by
    unfold nbK
    split
    · exact nbK_nn K _ (Or.inr (by omega))
    · exact nbK_nn K _ h
theorem kids_100 (hw : WF V) (hz : PZ V) (hl : V.length ≤ 100) {g : Nat} (hg : g < V.length) : (kids V g).length ≤ 100 := by
  have := kids_le hw hz (g := g)
  have := hw.1 g hg
  omega
/-- all VALUES come, one after the other -/
theorem ord_ch (hV : TR V ∧ PZL V) (hl : V.length ≤ 100) {g : Nat} (hg : g < V.length) (w : Int) : ChN (nxW V g w) (nxW V g w (-1)) (orV V g w) ∧ (orV V g w).map (sg V) = koS w (sg V g) ∧ ∀ c ∈ orV V g w, c ∈ kids V g := by
  have hz := pz_l hV.2
  have hw := hV.1.1
  have rk4 := rk_sg hg (hz g)
  have kds := kd_sg hV.2 hw hg
  have kl : ∀ k ∈ kids V g, k < V.length := fun k hk => (kid_in3 hw hz hg hk).2.1
  unfold orV
  by_cases c : nk V g = 5 ∧ w = 1
  · rw [if_pos c]
    have hob := obK_S hV.2 (K := kids V g) kl
    have h100 := hob 100 (-1) none (Or.inl ⟨rfl, rfl⟩)
    have h101 := hob 101 (-1) none (Or.inl ⟨rfl, rfl⟩)
    have fu := obS_fuel (L := (kids V g).map (sg V)) 100 101 none (Nat.le_trans (cgt_le _) (by rw [List.length_map]; exact kids_100 hw hz hl hg)) (by omega)
    have ll : (obK (100 + 1) V (-1) (kids V g)).length = (obK 100 V (-1) (kids V g)).length := by
      have a := congrArg List.length h100.1
      have b := congrArg List.length h101.1
      rw [List.length_map] at a b
      rw [fu] at b
      show (obK 101 V (-1) (kids V g)).length = (obK 100 V (-1) (kids V g)).length
      omega
    have ch := obK_ch (K := kids V g) 100 (-1) ll (nbK_nn _ _ (Or.inl rfl)) (fun last => nbK_nn _ _ (Or.inl rfl))
    refine ⟨?_, ?_, ?_⟩
    · have e : nxW V g w = fun last => nbK V last (-1) (kids V g) := by
        funext last
        unfold nxW
        rw [if_pos c]
      rw [e]
      exact ch
    · unfold koS
      rw [if_pos (by rw [rk4]; exact c), kds]
      exact h100.1
    · intro k hk
      have km : sg V k ∈ obS 100 none ((kids V g).map (sg V)) := by rw [← h100.1]; exact List.mem_map.mpr ⟨k, hk, rfl⟩
      have nk_ : ∀ (K0 : List Nat) (last x : Int), nbK V last x K0 = x ∨ ∃ k ∈ K0, nbK V last x K0 = (k : Int) := by
        intro K0
        induction K0 with
        | nil => intro last x; exact Or.inl rfl
        | cons a K0 ih =>
          intro last x
          unfold nbK
          split
          · rcases ih last (a : Int) with z | ⟨b, b1, b2⟩
            · exact Or.inr ⟨a, List.mem_cons_self, z⟩
            · exact Or.inr ⟨b, List.mem_cons_of_mem _ b1, b2⟩
          · rcases ih last x with z | ⟨b, b1, b2⟩
            · exact Or.inl z
            · exact Or.inr ⟨b, List.mem_cons_of_mem _ b1, b2⟩
      have ob_ : ∀ (f : Nat) (last : Int), ∀ k ∈ obK f V last (kids V g), k ∈ kids V g := by
        intro f
        induction f with
        | zero => intro last k hk; cases hk
        | succ f ih =>
          intro last k hk
          unfold obK at hk
          by_cases c2 : nbK V last (-1) (kids V g) = -1
          · rw [if_pos c2] at hk; cases hk
          · rw [if_neg c2] at hk
            rcases List.mem_cons.mp hk with z | z
            · rcases nk_ (kids V g) last (-1) with y | ⟨b, b1, b2⟩
              · exact absurd y c2
              · rw [b2, Int.toNat_natCast] at z
                rw [z]; exact b1
            · exact ih _ k z
      exact ob_ 100 (-1) k hk
  · rw [if_neg c]
    refine ⟨?_, ?_, fun k hk => hk⟩
    · have e0 : nxW V g w (-1) = cur (g + 1) (g + nz V g) := by
        unfold nxW
        rw [if_neg c, if_pos rfl]
      rw [e0]
      refine ks_ch hz (g := g) (fun k hk => ?_) (kids V g) (g + 1) rfl (by omega)
      unfold nxW
      rw [if_neg c, if_neg (by omega), Int.toNat_natCast]
    · unfold koS
      rw [if_neg (by rw [rk4]; exact c), kds]
end ORW
theorem kidO_inr {V : List ND} (hw : WF V) (hz : PZ V) {G : Nat} (hG : G < V.length) (hl : V.length ≤ 100) {q : Int} (hq : q = -1 ∨ ∃ c ∈ kids V G, q = (c : Int)) : inr q := by
  rcases hq with e | ⟨b, b1, e⟩
  · constructor <;> omega
  · have := (kid_in3 hw hz hG b1).2.1
    constructor <;> omega
section RNX
variable {S : GS} {d K : Nat} {V : List ND}
theorem q_byKeysL {k f i j : Int} {I J : Nat} (hd : 1 ≤ d) (hk : k = (K : Int)) (hf : f = (K : Int)) (hK : K < 48) (hi : i = (I : Int)) (hj : j = (J : Int)) (h : LK S K V) (hI : I < V.length) (hJ : J < V.length) : Rd (fun n => f_X12_byKeys n d 0 S [k, i, f, j]) (bk (nq V I) (nq V J)) S := by
  have l := h.2.1
  exact q_byKeys (A := 6161 * K + 61 * I) (B := 6161 * K + 61 * J) (x := V.getD I nd0) (y := V.getD J nd0) hd (by omega) (by omega) (by omega) (by omega) (h.2.2.1 I hI).1 (h.2.2.1 J hJ).1 (lk_key h hI) (lk_key h hJ)
theorem bk_in (h : LK S K V) {i j : Nat} (hi : i < V.length) (hj : j < V.length) : -20 ≤ bk (nq V i) (nq V j) ∧ bk (nq V i) (nq V j) ≤ 20 := by
  have := bk_r (nq V i) (nq V j)
  have a : (nq V i).length ≤ 12 := (lk_key h hi).1
  have b : (nq V j).length ≤ 12 := (lk_key h hj).1
  omega
/-- ways 0 and 1 -/
theorem q_nextChild {k g q w : Int} {G : Nat} (hd : 4 ≤ d) (hk : k = (K : Int)) (hK : K < 48) (hg : g = (G : Int)) (hw01 : w = 0 ∨ w = 1) (h : LK S K V) (hV : TR V ∧ PZL V) (hG : G < V.length) (h4 : 4 ≤ nk V G) (hq : q = -1 ∨ ∃ c ∈ kids V G, q = (c : Int)) : Rd (fun n => f_X12_nextChild n d 0 S [k, g, q, w]) (nxW V G w q) S := by
  subst hk hg
  have hz := pz_l hV.2
  have hw := hV.1.1
  have l := h.2.1
  have wg := hw.1 G hG
  have zg := hz G
  have nr := h.2.2.2 _ (nd_mem hG)
  have kr : 0 ≤ nk V G ∧ nk V G ≤ 5 := ⟨nr.1, nr.2.1⟩
  have p34 : ∀ (a : Nat), a ≤ 200 → Rd (fun n => f_X12_nextChild n d 34 S [(K : Int), (G : Int), (a : Int)]) (cur a (G + nz V G)) S := by
    intro a ha
    refine ev_up (fun n => e_X12_nextChild_34) ?_
    unfold b_X12_nextChild_34
    refine ev_gg (by first | omega | (constructor <;> omega)) ?_
    refine ev_gcr (q_endL (d := d - 1) (K := K) (I := G) (by omega) rfl hK rfl h hG) ?_
    refine ev_gg (by first | omega | (constructor <;> omega)) ?_
    refine ev_gg (by first | omega | (constructor <;> omega)) ?_
    unfold cur
    refine ev_ite (fun z => ?_) (fun z => ?_)
    · exact ev_ret ⟨by rw [if_neg (by omega)], rfl⟩
    · exact ev_ret ⟨by rw [if_pos (by omega)], rfl⟩
  have lp : ∀ (t a u : Nat) (x : Int), (ks V a (G + nz V G)).length = t → G < a → a ≤ G + nz V G → u + t = (kids V G).length → (∀ c ∈ ks V a (G + nz V G), c ∈ kids V G) → (x = -1 ∨ ∃ c ∈ kids V G, x = (c : Int)) → Rd (fun n => f_X12_nextChild n d 69 S [(K : Int), (G : Int), q, (a : Int), x, (u : Int)]) (nbK V q x (ks V a (G + nz V G))) S := by
    intro t
    induction t with
    | zero =>
      intro a u x ht ha ha2 hu hsub hx
      have kl := kids_le hw hz (g := G)
      refine ev_up (fun n => e_X12_nextChild_69) ?_
      unfold b_X12_nextChild_69
      refine ev_gg (by first | omega | (constructor <;> omega)) ?_
      refine ev_gcr (q_manyL (d := d - 1) (K := K) (I := G) (by omega) rfl hK rfl h hG) ?_
      refine ev_gg (by first | omega | (constructor <;> omega)) ?_
      refine ev_gg (by first | omega | (constructor <;> omega)) ?_
      refine ev_ite (fun _ => ?_) (fun z => by omega)
      rw [List.length_eq_zero_iff.mp ht]
      exact ev_ret ⟨rfl, rfl⟩
    | succ t ih =>
      intro a u x ht ha ha2 hu hsub hx
      have kl := kids_le hw hz (g := G)
      have c : a < G + nz V G := by
        by_cases c : a < G + nz V G
        · exact c
        · rw [ks_nil (by omega)] at ht; simp at ht
      have w2 := hw.2.1 G a ha c
      have za := hz a
      have al : a < V.length := by omega
      rw [ks_cons hz c, List.length_cons] at ht
      rw [ks_cons hz c]
      rw [ks_cons hz c] at hsub
      have ak : a ∈ kids V G := hsub a List.mem_cons_self
      have p136 : ∀ (y : Int), (y = -1 ∨ ∃ c ∈ kids V G, y = (c : Int)) → Rd (fun n => f_X12_nextChild n d 136 S [(K : Int), (G : Int), q, (a : Int), (u : Int), y]) (nbK V q y (ks V (a + nz V a) (G + nz V G))) S := by
        intro y hy
        refine ev_up (fun n => e_X12_nextChild_136) ?_
        unfold b_X12_nextChild_136
        refine ev_gg (by first | omega | (constructor <;> omega)) ?_
        refine ev_gcr (q_endL (d := d - 1) (K := K) (I := a) (by omega) rfl hK rfl h al) ?_
        refine ev_gv ?_
        rw [show (u : Int) + 1 = ((u + 1 : Nat) : Int) by omega]
        exact ih (a + nz V a) (u + 1) y (by omega) (by omega) w2 (by omega) (fun c hc => hsub c (List.mem_cons_of_mem _ hc)) hy
      have p103 : ∀ (s : Nat), s ≤ 1 → (s = 1 ↔ (q = -1 ∨ 0 < oK (nq V a) (nq V q.toNat))) → Rd (fun n => f_X12_nextChild n d 103 S [(K : Int), (G : Int), q, (a : Int), x, (u : Int), (s : Int)]) (nbK V q x (a :: ks V (a + nz V a) (G + nz V G))) S := by
        intro s hs hsq
        unfold nbK
        refine ev_up (fun n => e_X12_nextChild_103) ?_
        unfold b_X12_nextChild_103
        refine ev_gg (by first | omega | (constructor <;> omega)) ?_
        refine ev_ite (fun z => ?_) (fun z => ?_)
        · rw [if_neg (fun y => by have := hsq.mpr y.1; omega)]
          exact p136 x hx
        · have sq := hsq.mp (by omega)
          refine ev_gg (kidO_inr hV.1.1 hz hG l hx) ?_
          refine ev_ite (fun z2 => ?_) (fun z2 => ?_)
          · rw [if_pos ⟨sq, Or.inl z2⟩]
            exact p136 (a : Int) (Or.inr ⟨a, ak, rfl⟩)
          · obtain ⟨b, b1, rfl⟩ := hx.resolve_left z2
            have bl := (kid_in3 hw hz hG b1).2.1
            have br := bk_in h al bl
            have bo := bk_ok (nq V a) (nq V b)
            refine ev_gg (by first | omega | (constructor <;> omega)) ?_
            refine ev_gcr (q_byKeysL (d := d - 1) (K := K) (I := a) (J := b) (by omega) rfl rfl hK rfl rfl h al bl) ?_
            rw [Int.toNat_natCast]
            refine ev_gg (by first | omega | (constructor <;> omega)) ?_
            refine ev_ite (fun z3 => ?_) (fun z3 => ?_)
            · rw [if_neg (fun y => by have := bo.2.2.mpr (y.2.resolve_left z2); omega)]
              exact p136 _ (Or.inr ⟨b, b1, rfl⟩)
            · rw [if_pos ⟨sq, Or.inr (bo.2.2.mp (by omega))⟩]
              exact p136 _ (Or.inr ⟨a, ak, rfl⟩)
      refine ev_up (fun n => e_X12_nextChild_69) ?_
      unfold b_X12_nextChild_69
      refine ev_gg (by first | omega | (constructor <;> omega)) ?_
      refine ev_gcr (q_manyL (d := d - 1) (K := K) (I := G) (by omega) rfl hK rfl h hG) ?_
      refine ev_gg (by first | omega | (constructor <;> omega)) ?_
      refine ev_gg (by first | omega | (constructor <;> omega)) ?_
      refine ev_ite (fun z => by omega) (fun _ => ?_)
      refine ev_gg (kidO_inr hV.1.1 hz hG l hq) ?_
      refine ev_ite (fun z => ?_) (fun z => ?_)
      · exact p103 1 (by decide) ⟨fun _ => Or.inl z, fun _ => rfl⟩
      · obtain ⟨b, b1, rfl⟩ := hq.resolve_left z
        have bl := (kid_in3 hw hz hG b1).2.1
        have br := bk_in h al bl
        have bo := bk_ok (nq V a) (nq V b)
        refine ev_gcr (q_byKeysL (d := d - 1) (K := K) (I := a) (J := b) (by omega) rfl rfl hK rfl rfl h al bl) ?_
        refine ev_gg (by first | omega | (constructor <;> omega)) ?_
        refine ev_ite (fun z3 => ?_) (fun z3 => ?_)
        · refine p103 0 (by decide) ⟨fun e => by omega, fun e => ?_⟩
          have := e.resolve_left z
          rw [Int.toNat_natCast] at this
          have := bo.2.1.mpr this
          omega
        · refine p103 1 (by decide) ⟨fun _ => Or.inr ?_, fun _ => rfl⟩
          rw [Int.toNat_natCast]
          exact bo.2.1.mp (by omega)
  have p17 : ∀ (a : Nat), a ≤ 200 → nxW V G 0 q = cur a (G + nz V G) → Rd (fun n => f_X12_nextChild n d 17 S [(K : Int), (G : Int), q, w, (a : Int)]) (nxW V G w q) S := by
    intro a ha e0
    refine ev_up (fun n => e_X12_nextChild_17) ?_
    unfold b_X12_nextChild_17
    refine ev_gg (by first | omega | (constructor <;> omega)) ?_
    refine ev_ite (fun z => ?_) (fun z => ?_)
    · rw [z, e0]
      exact p34 a ha
    · have w1 : w = 1 := hw01.resolve_left z
      refine ev_gg (by first | omega | (constructor <;> omega)) ?_
      refine ev_gcr (q_kindL (d := d - 1) (K := K) (I := G) (by omega) rfl hK rfl h hG) ?_
      refine ev_gg (by first | omega | (constructor <;> omega)) ?_
      refine ev_ite (fun z2 => ?_) (fun z2 => ?_)
      · refine ev_ite (fun z => by omega) (fun _ => ?_)
        refine ev_gv ?_
        have k5 : nk V G = 5 := by omega
        have e1 : nxW V G w q = nbK V q (-1) (kids V G) := by
          unfold nxW
          rw [if_pos ⟨k5, w1⟩]
        rw [e1, show (G : Int) + 1 = ((G + 1 : Nat) : Int) by omega]
        exact lp (kids V G).length (G + 1) 0 (-1) rfl (by omega) (by omega) (by omega) (fun c hc => hc) (Or.inl rfl)
      · have e1 : nxW V G w q = nxW V G 0 q := by
          unfold nxW
          have k4 : nk V G = 4 := by omega
          rw [if_neg (show ¬ (nk V G = 5 ∧ w = 1) by omega), if_neg (show ¬ (nk V G = 5 ∧ (0 : Int) = 1) by omega)]
        rw [e1, e0]
        exact p34 a ha
  have e0 : nxW V G 0 q = if q = -1 then cur (G + 1) (G + nz V G) else cur (q.toNat + nz V q.toNat) (G + nz V G) := by
    unfold nxW
    rw [if_neg (fun y => by omega)]
  refine ev_up (fun n => e_X12_nextChild_0) ?_
  unfold b_X12_nextChild_0
  refine ev_gg (kidO_inr hV.1.1 hz hG l hq) ?_
  refine ev_ite (fun z => ?_) (fun z => ?_)
  · obtain ⟨b, b1, rfl⟩ := hq.resolve_left z
    have bk_ := kid_in3 hw hz hG b1
    rw [if_neg z, Int.toNat_natCast] at e0
    refine ev_gg (by first | omega | (constructor <;> omega)) ?_
    refine ev_gcr (q_endL (d := d - 1) (K := K) (I := b) (by omega) rfl hK rfl h bk_.2.1) ?_
    exact p17 (b + nz V b) (by omega) e0
  · rw [if_pos (by omega)] at e0
    refine ev_gv ?_
    rw [show (G : Int) + 1 = ((G + 1 : Nat) : Int) by omega]
    exact p17 (G + 1) (by omega) e0
end RNX
