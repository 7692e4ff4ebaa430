/-! THE REFERENCE: links -/
section KSX
variable {V : List ND} {e : Nat}
theorem ks_tail (hz : PZ V) {k : Nat} {K2 : List Nat} : ∀ (K1 : List Nat) (a : Nat), ks V a e = K1 ++ k :: K2 → K2 = ks V (k + nz V k) e ∧ k < e ∧ a ≤ k
  | [], a, h => by
    by_cases c : a < e
    · rw [ks_cons hz c, List.nil_append] at h
      have h1 := List.cons.inj h
      obtain ⟨rfl, h2⟩ := h1
      exact ⟨h2.symm, c, Nat.le_refl _⟩
    · rw [ks_nil (by omega)] at h; cases h
  | x :: K1, a, h => by
    by_cases c : a < e
    · rw [ks_cons hz c, List.cons_append] at h
      have h1 := List.cons.inj h
      have := ks_tail hz K1 _ h1.2
      exact ⟨this.1, this.2.1, by omega⟩
    · rw [ks_nil (by omega)] at h; cases h
theorem ks_next (hz : PZ V) {k k2 a : Nat} {K1 K2 : List Nat} (h : ks V a e = K1 ++ k :: k2 :: K2) : k2 = k + nz V k := by
  have t := (ks_tail hz K1 a h).1
  by_cases c : k + nz V k < e
  · rw [ks_cons hz c] at t
    exact (List.cons.inj t).1
  · rw [ks_nil (by omega)] at t; cases t
theorem ks_last (hz : PZ V) {k a : Nat} {K1 : List Nat} (h : ks V a e = K1 ++ [k]) : e ≤ k + nz V k := by
  have t := (ks_tail hz K1 a h).1
  by_cases c : k + nz V k < e
  · rw [ks_cons hz c] at t; cases t
  · omega
theorem ks_lt (hz : PZ V) {k : Nat} {K2 : List Nat} : ∀ (K1 : List Nat) (a : Nat), ks V a e = K1 ++ k :: K2 → ∀ x ∈ K1, x < k
  | [], _, _ => fun x hx => by cases hx
  | y :: K1, a, h => by
    by_cases c : a < e
    · rw [ks_cons hz c, List.cons_append] at h
      have h1 := List.cons.inj h
      intro x hx
      rcases List.mem_cons.mp hx with z | z
      · subst z
        have := (ks_tail hz K1 _ h1.2).2.2
        have := hz a
        omega
      · exact ks_lt hz K1 _ h1.2 x z
    · rw [ks_nil (by omega)] at h; cases h
/-- what begins ahead of a VALUE ends there -/
theorem ks_ahead (hw : WF V) (hz : PZ V) {k : Nat} {K2 : List Nat} : ∀ (K1 : List Nat) (a : Nat), ks V a e = K1 ++ k :: K2 → ∀ q, a ≤ q → q < k → q + nz V q ≤ k
  | [], a, h => by
    by_cases c : a < e
    · rw [ks_cons hz c, List.nil_append] at h
      have h1 := List.cons.inj h
      intro q; omega
    · rw [ks_nil (by omega)] at h; cases h
  | y :: K1, a, h => by
    by_cases c : a < e
    · rw [ks_cons hz c, List.cons_append] at h
      have h1 := List.cons.inj h
      have t := ks_tail hz K1 _ h1.2
      intro q q1 q2
      by_cases c2 : a + nz V a ≤ q
      · exact ks_ahead hw hz K1 _ h1.2 q c2 q2
      · by_cases c3 : q = a
        · subst c3; exact t.2.2
        · have := hw.2.1 a q (by omega) (by omega)
          omega
    · rw [ks_nil (by omega)] at h; cases h
end KSX
theorem plK_at {x : Nat} {K2 : List Nat} : ∀ (K1 : List Nat) (n : Nat), x ∉ K1 → plK x (K1 ++ x :: K2) n = ((n + K1.length : Nat) : Int)
  | [], n, _ => by
    unfold plK
    rw [List.nil_append]
    simp
  | y :: K1, n, h => by
    rw [List.mem_cons] at h
    rw [List.cons_append]
    unfold plK
    rw [if_neg (fun z => h (Or.inl z.symm)), plK_at K1 (n + 1) (fun z => h (Or.inr z)), List.length_cons]
    omega
theorem kid_own {V : List ND} (hw : WF V) (hz : PZ V) {g k : Nat} {K1 K2 : List Nat} (h : kids V g = K1 ++ k :: K2) : owI V k = (g : Int) ∧ plI V k = (K1.length : Int) := by
  have hk : k ∈ kids V g := by rw [h]; exact List.mem_append_right _ List.mem_cons_self
  have m := mem_kids hz hk
  have e1 : owI V k = (g : Int) := by
    unfold owI
    rcases ow_ok (V := V) (i := k) k with ⟨a, b⟩ | ⟨o, a, b, c, d⟩
    · exact absurd m.2 (b g m.1)
    · by_cases c1 : g = o
      · rw [a, c1]
      · by_cases c2 : o < g
        · exact absurd m.2 (d g c2 m.1)
        · have := ks_ahead hw hz K1 (g + 1) h o (by omega) b
          omega
  refine ⟨e1, ?_⟩
  unfold plI
  rw [e1, if_pos (by omega), Int.toNat_natCast, h, plK_at K1 0 (fun z => by have := ks_lt hz K1 (g + 1) h k z; omega), Nat.zero_add]
/-- a record tells a node and its place -/
def LJ (S : GS) (K : Nat) (V : List ND) (i : Nat) : Prop := CR S (6161 * K + 61 * i) (V.getD i nd0) ∧ S.1 501 (6161 * K + 61 * i + 1) = owI V i ∧ S.1 501 (6161 * K + 61 * i + 2) = plI V i ∧ S.1 501 (6161 * K + 61 * i + 3) = ((kids V i).length : Int) ∧ S.1 501 (6161 * K + 61 * i + 4) = (nz V i : Int)
/-- a linked document -/
def LK (S : GS) (K : Nat) (V : List ND) : Prop := S.1 502 K = (V.length : Int) ∧ V.length ≤ 100 ∧ (∀ i, i < V.length → LJ S K V i) ∧ ∀ x ∈ V, NR x
theorem nr_nw {x : ND} (h : NR x) (z : Nat) (hz : z ≤ 1000) : NW (wZ x z) := ⟨⟨h.1, h.2.1⟩, hz, ⟨h.2.2.2.2.2.2.1, h.2.2.2.2.2.2.2.1⟩, ⟨h.2.2.2.2.2.2.2.2.1, h.2.2.2.2.2.2.2.2.2⟩, h.2.2.2.2.1, h.2.2.2.2.2.1⟩
theorem kids_le {V : List ND} (hw : WF V) (hz : PZ V) {g : Nat} : (kids V g).length ≤ nz V g - 1 := by
  have h := kids_sum hw hz (g := g)
  have : ∀ (K : List Nat), K.length ≤ suF (nz V) K := by
    intro K
    induction K with
    | nil => exact Nat.le_refl _
    | cons c K ih => have := hz c; unfold suF; rw [List.length_cons]; omega
  have := this (kids V g)
  omega
theorem lk_mr {S : GS} {K : Nat} {V : List ND} (hw : WF V) (hz : PZL V) (h : LK S K V) : MR S K (mny V) := by
  obtain ⟨h1, h2, h3, h4⟩ := h
  have hz' := pz_l hz
  refine ⟨by rw [mny_len]; exact h1, by rw [mny_len]; exact h2, fun i hi => ?_, fun x hx => ?_⟩
  · rw [mny_len] at hi
    rw [mny_at hi, kd_sg hz hw hi, List.length_map]
    exact ⟨cr_z.mpr (h3 i hi).1, (h3 i hi).2.2.2.1⟩
  · unfold mny at hx
    obtain ⟨i, hi, rfl⟩ := List.mem_map.mp hx
    rw [List.mem_range] at hi
    rw [kd_sg hz hw hi, List.length_map]
    have := kids_le hw hz' (g := i)
    have := hw.1 i hi
    exact nr_nw (h4 _ (nd_mem hi)) _ (by omega)
theorem lk_fr {P : Nat → Nat → Prop} {S S1 : GS} {K : Nat} {V : List ND} (h : LK S K V) (hf : FC P S S1) (h1 : ∀ j, 6161 * K ≤ j → j < 6161 * K + 6161 → ¬ P 501 j) (h2 : ¬ P 502 K) : LK S1 K V := by
  obtain ⟨e1, e2, e3, e4⟩ := h
  refine ⟨(fc_i hf h2).trans e1, e2, fun i hi => ?_, e4⟩
  obtain ⟨a1, a2, a3, a4, a5⟩ := e3 i hi
  have nr := e4 _ (nd_mem hi)
  refine ⟨cr_cp a1 ⟨nr.2.2.2.2.2.2.1, nr.2.2.2.2.2.2.2.2.1⟩ (fun w hw _ => fc_i hf (h1 _ (by omega) (by omega))), ?_, ?_, ?_, ?_⟩
  · exact (fc_i hf (h1 _ (by omega) (by omega))).trans a2
  · exact (fc_i hf (h1 _ (by omega) (by omega))).trans a3
  · exact (fc_i hf (h1 _ (by omega) (by omega))).trans a4
  · exact (fc_i hf (h1 _ (by omega) (by omega))).trans a5
/-- records tell nodes, and how many VALUES they have -/
def HB (S : GS) (K : Nat) (V : List ND) : Prop := S.1 502 K = (V.length : Int) ∧ ∀ i, i < V.length → CR S (6161 * K + 61 * i) (V.getD i nd0) ∧ S.1 501 (6161 * K + 61 * i + 3) = ((kids V i).length : Int)
/-- places of some nodes are told -/
def LKs (S : GS) (K : Nat) (V : List ND) (a e : Nat) : Prop := ∀ i, a ≤ i → i < e → S.1 501 (6161 * K + 61 * i + 1) = owI V i ∧ S.1 501 (6161 * K + 61 * i + 2) = plI V i ∧ S.1 501 (6161 * K + 61 * i + 4) = (nz V i : Int)
abbrev lkF (K a e deep : Nat) : Nat → Nat → Prop := fun c j => (c = 501 ∧ 6161 * K + 61 * a ≤ j ∧ j < 6161 * K + 61 * e) ∨ (c = 505 ∧ deep ≤ j) ∨ (c = 506 ∧ deep ≤ j + 1)
theorem lks_fr {P : Nat → Nat → Prop} {S S1 : GS} {K a e : Nat} {V : List ND} (h : LKs S K V a e) (hf : FC P S S1) (h1 : ∀ j, 6161 * K + 61 * a ≤ j → j < 6161 * K + 61 * e → ¬ P 501 j) : LKs S1 K V a e := fun i i1 i2 => ⟨(fc_i hf (h1 _ (by omega) (by omega))).trans (h i i1 i2).1, (fc_i hf (h1 _ (by omega) (by omega))).trans (h i i1 i2).2.1, (fc_i hf (h1 _ (by omega) (by omega))).trans (h i i1 i2).2.2⟩
theorem hb_gI {S : GS} {K i w : Nat} {V : List ND} {x : Int} (hr : ∀ y ∈ V, NR y) (h : HB S K V) (hw : w = 1 ∨ w = 2 ∨ w = 4) : HB (gI S 501 (6161 * K + 61 * i + w) x) K V := ⟨by rw [gI_c (by decide)]; exact h.1, fun j hj => ⟨cr_cp (h.2 j hj).1 ⟨(hr _ (nd_mem hj)).2.2.2.2.2.2.1, (hr _ (nd_mem hj)).2.2.2.2.2.2.2.2.1⟩ (fun v hv hn => gI_k (by omega)), by rw [gI_k (by omega)]; exact (h.2 j hj).2⟩⟩
theorem hb_gJ {S : GS} {K i c : Nat} {V : List ND} {x : Int} (hr : ∀ y ∈ V, NR y) (h : HB S K V) (hc : c ≠ 501 ∧ c ≠ 502) : HB (gI S c i x) K V := ⟨by rw [gI_c (Ne.symm hc.2)]; exact h.1, fun j hj => ⟨cr_cp (h.2 j hj).1 ⟨(hr _ (nd_mem hj)).2.2.2.2.2.2.1, (hr _ (nd_mem hj)).2.2.2.2.2.2.2.2.1⟩ (fun v hv hn => gI_c (Ne.symm hc.1)), by rw [gI_c (Ne.symm hc.1)]; exact (h.2 j hj).2⟩⟩
section LNK
variable {d K : Nat} {V : List ND} {Q : Int → GS → Prop}
/-- whose VALUE a node is, by the stack -/
def PA (S : GS) (V : List ND) (deep i : Nat) : Prop := (deep = 0 ∧ owI V i = -1 ∧ plI V i = -1) ∨ ∃ (g : Nat) (K1 K2 : List Nat), 1 ≤ deep ∧ S.1 505 (deep - 1) = (g : Int) ∧ g < V.length ∧ kids V g = K1 ++ i :: K2 ∧ S.1 506 (deep - 1) = (K2.length : Int) + 1
/-- the first steps at a node -/
theorem lk_head {S : GS} {deep i : Nat} (hd : 2 ≤ d) (hK : K < 48) (hV : TR V ∧ PZL V) (hl : V.length ≤ 100) (hr : ∀ y ∈ V, NR y) (hi : i < V.length) (hdp : deep ≤ i) (hb : HB S K V) (hp : PA S V deep i) (nx : ∀ S1, HB S1 K V → S1.1 501 (6161 * K + 61 * i + 1) = owI V i → S1.1 501 (6161 * K + 61 * i + 2) = plI V i → S1.1 501 (6161 * K + 61 * i + 4) = 1 → FC (fun c j => (c = 501 ∧ 6161 * K + 61 * i ≤ j ∧ j < 6161 * K + 61 * i + 61) ∨ (c = 506 ∧ deep = j + 1)) S S1 → (1 ≤ deep → S1.1 506 (deep - 1) = S.1 506 (deep - 1) - 1) → Ev (fun n => f_X12_link n d 112 S1 [(K : Int), (deep : Int), (i : Int), ((6161 * K + 61 * i : Nat) : Int)]) Q) : Ev (fun n => f_X12_link n d 4 S [(K : Int), (deep : Int), (i : Int)]) Q := by
  have hz := pz_l hV.2
  have ea : (101 * (K : Int) + (i : Int)) * 61 = ((6161 * K + 61 * i : Nat) : Int) := by omega
  refine ev_up (fun n => e_X12_link_4) ?_
  unfold b_X12_link_4
  refine ev_gg (by first | omega | (constructor <;> omega)) ?_
  refine ev_gv ?_
  rw [Int.toNat_natCast, hb.1]
  refine ev_gg (by first | omega | (constructor <;> omega)) ?_
  refine ev_gg (by first | omega | (constructor <;> omega)) ?_
  refine ev_ite (fun z => by omega) (fun _ => ?_)
  refine ev_gg (by first | omega | (constructor <;> omega)) ?_
  refine ev_gcr (q_at) ?_
  refine ev_gv ?_
  rw [ea]
  refine ev_gg (by first | omega | (constructor <;> omega)) ?_
  rcases hp with ⟨rfl, p1, p2⟩ | ⟨g, K1, K2, p1, p2, p3, p4, p5⟩
  · refine ev_ite (fun z => by omega) (fun _ => ?_)
    refine ev_up (fun n => e_X12_link_45) ?_
    unfold b_X12_link_45
    refine ev_gg (by first | omega | (constructor <;> omega)) ?_
    refine ev_gv ?_
    refine ev_gv ?_
    refine ev_gg (by first | omega | (constructor <;> omega)) ?_
    refine ev_ite (fun z => by omega) (fun _ => ?_)
    refine ev_up (fun n => e_X12_link_85) ?_
    unfold b_X12_link_85
    refine ev_gg (by first | omega | (constructor <;> omega)) ?_
    refine ev_gv ?_
    refine ev_gv ?_
    refine ev_gg (by first | omega | (constructor <;> omega)) ?_
    refine ev_gv ?_
    refine ev_gg (by first | omega | (constructor <;> omega)) ?_
    refine ev_ite (fun _ => ?_) (fun z => by omega)
    rw [show (((6161 * K + 61 * i : Nat) : Int) + 1).toNat = 6161 * K + 61 * i + 1 by omega, show (((6161 * K + 61 * i : Nat) : Int) + 2).toNat = 6161 * K + 61 * i + 2 by omega, show (((6161 * K + 61 * i : Nat) : Int) + 4).toNat = 6161 * K + 61 * i + 4 by omega]
    refine nx _ (hb_gI hr (hb_gI hr (hb_gI hr hb (by omega)) (by omega)) (by omega)) ?_ ?_ gI_a (fc_tr (fc_gI (Or.inl ⟨rfl, by omega, by omega⟩)) (fc_tr (fc_gI (Or.inl ⟨rfl, by omega, by omega⟩)) (fc_gI (Or.inl ⟨rfl, by omega, by omega⟩)))) (fun z => by omega)
    · rw [gI_k (by omega), gI_k (by omega), gI_a, p1]
    · rw [gI_k (by omega), gI_a, p2]
  · have own := kid_own hV.1.1 hz p4
    have hg := (hb.2 g p3).2
    have lk : (kids V g).length = K1.length + 1 + K2.length := by rw [p4, List.length_append, List.length_cons]; omega
    have kl := kids_le hV.1.1 hz (g := g)
    have gl := hV.1.1.1 g p3
    refine ev_ite (fun _ => ?_) (fun z => by omega)
    refine ev_gv ?_
    refine ev_gg (by first | omega | (constructor <;> omega)) ?_
    refine ev_gv ?_
    rw [show ((deep : Int) - 1).toNat = deep - 1 by omega, p2]
    refine ev_up (fun n => e_X12_link_45) ?_
    unfold b_X12_link_45
    refine ev_gg (by first | omega | (constructor <;> omega)) ?_
    refine ev_gv ?_
    refine ev_gv ?_
    refine ev_gg (by first | omega | (constructor <;> omega)) ?_
    refine ev_ite (fun _ => ?_) (fun z => by omega)
    refine ev_gv ?_
    refine ev_gg (by first | omega | (constructor <;> omega)) ?_
    refine ev_gv ?_
    rw [show (((6161 * K + 61 * i : Nat) : Int) + 1).toNat = 6161 * K + 61 * i + 1 by omega, show ((deep : Int) - 1).toNat = deep - 1 by omega, gI_c (show (505 : Nat) ≠ 501 by decide), p2]
    refine ev_gg (by first | omega | (constructor <;> omega)) ?_
    refine ev_gcr (q_part (d := d - 1) (6161 * K + 61 * g + 3) (by omega) (by omega) (by omega)) ?_
    rw [gI_k (by omega), hg]
    refine ev_gv ?_
    refine ev_gg (by first | omega | (constructor <;> omega)) ?_
    refine ev_gv ?_
    refine ev_gv ?_
    rw [show ((deep : Int) - 1).toNat = deep - 1 by omega, gI_c (show (506 : Nat) ≠ 501 by decide), p5]
    refine ev_up (fun n => e_X12_link_85) ?_
    unfold b_X12_link_85
    refine ev_gg (by first | omega | (constructor <;> omega)) ?_
    refine ev_gv ?_
    refine ev_gv ?_
    refine ev_gg (by first | omega | (constructor <;> omega)) ?_
    refine ev_gv ?_
    refine ev_gg (by first | omega | (constructor <;> omega)) ?_
    refine ev_ite (fun z => by omega) (fun _ => ?_)
    refine ev_gv ?_
    refine ev_gg (by first | omega | (constructor <;> omega)) ?_
    refine ev_gv ?_
    refine ev_gv ?_
    refine ev_gv ?_
    rw [show ((deep : Int) - 1).toNat = deep - 1 by omega, show (((6161 * K + 61 * i : Nat) : Int) + 2).toNat = 6161 * K + 61 * i + 2 by omega, show (((6161 * K + 61 * i : Nat) : Int) + 4).toNat = 6161 * K + 61 * i + 4 by omega, gI_c (show (506 : Nat) ≠ 501 by decide), gI_c (show (506 : Nat) ≠ 501 by decide), gI_c (show (506 : Nat) ≠ 501 by decide), p5]
    refine nx _ (hb_gJ hr (hb_gI hr (hb_gI hr (hb_gI hr hb (by omega)) (by omega)) (by omega)) (by omega)) ?_ ?_ ?_ (fc_tr (fc_gI (Or.inl ⟨rfl, by omega, by omega⟩)) (fc_tr (fc_gI (Or.inl ⟨rfl, by omega, by omega⟩)) (fc_tr (fc_gI (Or.inl ⟨rfl, by omega, by omega⟩)) (fc_gI (Or.inr ⟨rfl, by omega⟩))))) (fun z => by rw [gI_a, p5])
    · rw [gI_c (by decide), gI_k (by omega), gI_k (by omega), gI_a, own.1]
    · rw [gI_c (by decide), gI_k (by omega), gI_a, own.2, lk]
      omega
    · rw [gI_c (by decide), gI_a]
theorem lk_node (hd : 2 ≤ d) (hK : K < 48) (hV : TR V ∧ PZL V) (hl : V.length ≤ 100) (hr : ∀ y ∈ V, NR y) : ∀ (f i : Nat) (S : GS) (deep : Nat) (Q : Int → GS → Prop), nz V i ≤ f → i < V.length → deep ≤ i → HB S K V → PA S V deep i → (∀ S1, HB S1 K V → LKs S1 K V i (i + nz V i) → FC (lkF K i (i + nz V i) deep) S S1 → (1 ≤ deep → S1.1 506 (deep - 1) = S.1 506 (deep - 1) - 1) → Ev (fun n => f_X12_link n d 149 S1 [(K : Int), (deep : Int), ((i + nz V i - 1 : Nat) : Int)]) Q) → Ev (fun n => f_X12_link n d 4 S [(K : Int), (deep : Int), (i : Int)]) Q := by
  have hz := pz_l hV.2
  intro f
  induction f with
  | zero => intro i S deep Q hf; have := hz i; omega
  | succ f ih =>
    intro i S deep Q hf hi hdp hb hp nx
    refine lk_head hd hK hV hl hr hi hdp hb hp (fun S1 hb1 a1 a2 a4 hf1 hl1 => ?_)
    have kl := kids_le hV.1.1 hz (g := i)
    have zi := hz i
    have wi := hV.1.1.1 i hi
    have m3 := (hb1.2 i hi).2
    refine ev_up (fun n => e_X12_link_112) ?_
    unfold b_X12_link_112
    refine ev_gv ?_
    refine ev_gg (by first | omega | (constructor <;> omega)) ?_
    refine ev_gv ?_
    rw [show (((6161 * K + 61 * i : Nat) : Int) + 3).toNat = 6161 * K + 61 * i + 3 by omega, m3]
    refine ev_gg (by first | omega | (constructor <;> omega)) ?_
    cases ek : kids V i with
    | nil =>
      rw [List.length_nil]
      refine ev_ite (fun _ => ?_) (fun z => by omega)
      have z1 : nz V i = 1 := by
        by_cases c : i + 1 < i + nz V i
        · unfold kids at ek
          rw [ks_cons hz c] at ek
          cases ek
        · omega
      have := nx S1 hb1 (fun j j1 j2 => by
        have : j = i := by omega
        subst this
        exact ⟨a1, a2, by rw [a4, z1]; rfl⟩) (fc_mono hf1 (fun c j z => by
        rcases z with z | z
        · exact Or.inl ⟨z.1, by omega, by omega⟩
        · exact Or.inr (Or.inr ⟨z.1, by omega⟩))) hl1
      rw [z1, Nat.add_sub_cancel] at this
      exact this
    | cons k0 K0 =>
      have lk0 : (kids V i).length = K0.length + 1 := by rw [ek]; rfl
      have n1 : i + 1 < i + nz V i := by omega
      have k0e : k0 = i + 1 := by
        unfold kids at ek
        rw [ks_cons hz n1] at ek
        exact (List.cons.inj ek).1.symm
      rw [List.length_cons]
      refine ev_ite (fun z => by omega) (fun _ => ?_)
      refine ev_gg (by first | omega | (constructor <;> omega)) ?_
      refine ev_gv ?_
      refine ev_gv ?_
      refine ev_gg (by first | omega | (constructor <;> omega)) ?_
      refine ev_gv ?_
      refine ev_gv ?_
      refine ev_gv ?_
      rw [Int.toNat_natCast, show (((6161 * K + 61 * i : Nat) : Int) + 3).toNat = 6161 * K + 61 * i + 3 by omega, gI_c (show (501 : Nat) ≠ 505 by decide), m3, lk0]
      refine ev_up (fun n => e_X12_link_149) ?_
      unfold b_X12_link_149
      refine ev_gg (by first | omega | (constructor <;> omega)) ?_
      refine ev_ite (fun z => by omega) (fun _ => ?_)
      refine ev_gv ?_
      refine ev_gg (by first | omega | (constructor <;> omega)) ?_
      refine ev_gv ?_
      rw [show ((deep : Int) + 1 - 1).toNat = deep by omega, gI_a]
      refine ev_gg (by first | omega | (constructor <;> omega)) ?_
      refine ev_ite (fun _ => ?_) (fun z => by omega)
      refine ev_gv ?_
      have kd_ : ∀ (K2 K1 : List Nat) (k : Nat) (S2 : GS), kids V i = K1 ++ k :: K2 → HB S2 K V → S2.1 505 deep = (i : Int) → S2.1 506 deep = (K2.length : Int) + 1 → LKs S2 K V (i + 1) k → FC (fun c j => (c = 501 ∧ 6161 * K + 61 * (i + 1) ≤ j ∧ j < 6161 * K + 61 * (i + nz V i)) ∨ (c = 505 ∧ deep ≤ j) ∨ (c = 506 ∧ deep ≤ j)) S1 S2 → Ev (fun n => f_X12_link n d 4 S2 [(K : Int), (deep : Int) + 1, (k : Int)]) Q := by
        intro K2
        induction K2 with
        | nil =>
          intro K1 k S2 e1 b1 b2 b3 b4 b5
          have m := mem_kids hz (g := i) (k := k) (by rw [e1]; exact List.mem_append_right _ List.mem_cons_self)
          have wk := hV.1.1.2.1 i k m.1 m.2
          have lst := ks_last hz e1
          rw [show (deep : Int) + 1 = ((deep + 1 : Nat) : Int) by omega]
          refine ih k S2 (deep + 1) Q (by omega) (by omega) (by omega) b1 (Or.inr ⟨i, K1, [], by omega, b2, hi, e1, b3⟩) (fun S3 c1 c2 c3 c4 => ?_)
          have c4 : S3.1 506 deep = 0 := by
            have := c4 (by omega)
            rw [Nat.add_sub_cancel, b3] at this
            rw [this]
            rfl
          have o5 : S3.1 505 deep = (i : Int) := by rw [fc_i c3 (by omega)]; exact b2
          have ol : LKs S3 K V (i + 1) k := lks_fr b4 c3 (fun j j1 j2 => by omega)
          have f13 : FC (fun c j => (c = 501 ∧ 6161 * K + 61 * (i + 1) ≤ j ∧ j < 6161 * K + 61 * (i + nz V i)) ∨ (c = 505 ∧ deep ≤ j) ∨ (c = 506 ∧ deep ≤ j)) S1 S3 := fc_tr b5 (fc_mono c3 (fun c j z => by omega))
          rw [show k + nz V k - 1 = i + nz V i - 1 by omega]
          refine ev_up (fun n => e_X12_link_149) ?_
          unfold b_X12_link_149
          refine ev_gg (by first | omega | (constructor <;> omega)) ?_
          refine ev_ite (fun z => by omega) (fun _ => ?_)
          refine ev_gv ?_
          refine ev_gg (by first | omega | (constructor <;> omega)) ?_
          refine ev_gv ?_
          rw [show (((deep + 1 : Nat) : Int) - 1).toNat = deep by omega, c4]
          refine ev_gg (by decide) ?_
          refine ev_ite (fun z => by omega) (fun _ => ?_)
          refine ev_gv ?_
          refine ev_gg (by first | omega | (constructor <;> omega)) ?_
          refine ev_gv ?_
          rw [show (((deep + 1 : Nat) : Int) + -1).toNat = deep by omega, o5]
          refine ev_gg (by first | omega | (constructor <;> omega)) ?_
          refine ev_gcr (q_at) ?_
          refine ev_gv ?_
          refine ev_gv ?_
          refine ev_gv ?_
          rw [o5]
          refine ev_gv ?_
          refine ev_gg (by first | omega | (constructor <;> omega)) ?_
          refine ev_gv ?_
          rw [show ((101 * (K : Int) + (i : Int)) * 61 + 4).toNat = 6161 * K + 61 * i + 4 by omega, show ((i + nz V i - 1 : Nat) : Int) + 1 - (i : Int) = (nz V i : Int) by omega, show ((deep + 1 : Nat) : Int) + -1 = (deep : Int) by omega]
          refine nx _ (hb_gI hr c1 (by omega)) (fun j j1 j2 => ?_) (fc_tr (fc_mono hf1 (fun c j z => ?_)) (fc_tr (fc_mono f13 (fun c j z => ?_)) (fc_gI (Or.inl ⟨rfl, by omega, by omega⟩)))) (fun z => ?_)
          · by_cases c9 : j = i
            · subst c9
              refine ⟨?_, ?_, gI_a⟩
              · rw [gI_k (by omega), fc_i f13 (by omega)]
                exact a1
              · rw [gI_k (by omega), fc_i f13 (by omega)]
                exact a2
            · by_cases c8 : j < k
              · have := ol j (by omega) c8
                rw [gI_k (by omega), gI_k (by omega), gI_k (by omega)]
                exact this
              · have := c2 j (by omega) (by omega)
                rw [gI_k (by omega), gI_k (by omega), gI_k (by omega)]
                exact this
          · omega
          · omega
          · rw [gI_c (by decide), fc_i f13 (by omega)]
            exact hl1 z
        | cons k2 K2 ih2 =>
          intro K1 k S2 e1 b1 b2 b3 b4 b5
          have m := mem_kids hz (g := i) (k := k) (by rw [e1]; exact List.mem_append_right _ List.mem_cons_self)
          have wk := hV.1.1.2.1 i k m.1 m.2
          have nxt := ks_next hz e1
          rw [show (deep : Int) + 1 = ((deep + 1 : Nat) : Int) by omega]
          refine ih k S2 (deep + 1) Q (by omega) (by omega) (by omega) b1 (Or.inr ⟨i, K1, k2 :: K2, by omega, b2, hi, e1, b3⟩) (fun S3 c1 c2 c3 c4 => ?_)
          have c4 := c4 (by omega)
          rw [Nat.add_sub_cancel, b3, List.length_cons] at c4
          have o5 : S3.1 505 deep = (i : Int) := by rw [fc_i c3 (by omega)]; exact b2
          have ol : LKs S3 K V (i + 1) k := lks_fr b4 c3 (fun j j1 j2 => by omega)
          have f13 : FC (fun c j => (c = 501 ∧ 6161 * K + 61 * (i + 1) ≤ j ∧ j < 6161 * K + 61 * (i + nz V i)) ∨ (c = 505 ∧ deep ≤ j) ∨ (c = 506 ∧ deep ≤ j)) S1 S3 := fc_tr b5 (fc_mono c3 (fun c j z => by omega))
          have kl2 : (kids V i).length = K1.length + 1 + (K2.length + 1) := by rw [e1, List.length_append, List.length_cons, List.length_cons]; omega
          refine ev_up (fun n => e_X12_link_149) ?_
          unfold b_X12_link_149
          refine ev_gg (by first | omega | (constructor <;> omega)) ?_
          refine ev_ite (fun z => by omega) (fun _ => ?_)
          refine ev_gv ?_
          refine ev_gg (by first | omega | (constructor <;> omega)) ?_
          refine ev_gv ?_
          rw [show (((deep + 1 : Nat) : Int) - 1).toNat = deep by omega, c4]
          refine ev_gg (by first | omega | (constructor <;> omega)) ?_
          refine ev_ite (fun _ => ?_) (fun z => by omega)
          refine ev_gv ?_
          rw [show ((k + nz V k - 1 : Nat) : Int) + 1 = (k2 : Int) by have := hz k; omega, show ((deep + 1 : Nat) : Int) = (deep : Int) + 1 by omega]
          refine ih2 (K1 ++ [k]) k2 S3 (by rw [e1]; simp) c1 o5 (by omega) (fun j j1 j2 => ?_) f13
          by_cases c8 : j < k
          · exact ol j j1 c8
          · exact c2 j (by omega) (by omega)
      rw [show (i : Int) + 1 = (k0 : Int) by omega]
      refine kd_ K0 [] k0 _ ek (hb_gJ hr (hb_gJ hr hb1 (by omega)) (by omega)) (by rw [gI_c (by decide), gI_a]) (by rw [gI_a]; omega) (fun j j1 j2 => by omega) (fc_tr (fc_gI (Or.inr (Or.inl ⟨rfl, by omega⟩))) (fc_gI (Or.inr (Or.inr ⟨rfl, by omega⟩))))
theorem q_link {S : GS} {k : Int} (hd : 2 ≤ d) (hk : k = (K : Int)) (hK : K < 48) (hV : TR V ∧ PZL V) (hr : ∀ y ∈ V, NR y) (h : MR S K (mny V)) : Ev (fun n => f_X12_link n d 0 S [k]) (fun _ S1 => LK S1 K V ∧ FC (fun c j => (c = 501 ∧ 6161 * K ≤ j ∧ j < 6161 * K + 61 * V.length) ∨ c = 505 ∨ c = 506) S S1) := by
  subst hk
  have hl : V.length ≤ 100 := by have := h.2.1; rw [mny_len] at this; exact this
  have l1 := hV.1.2.1
  have z0 : nz V 0 = V.length := hV.1.2.2
  have hb : HB S K V := by
    refine ⟨by rw [h.1, mny_len], fun i hi => ?_⟩
    have := h.2.2.1 i (by rw [mny_len]; exact hi)
    rw [mny_at hi, kd_sg hV.2 hV.1.1 hi, List.length_map] at this
    exact ⟨cr_z.mp this.1, this.2⟩
  refine ev_up (fun n => e_X12_link_0) ?_
  unfold b_X12_link_0
  refine lk_node hd hK hV hl hr (nz V 0) 0 S 0 _ (Nat.le_refl _) (by omega) (Nat.le_refl _) hb (Or.inl ⟨rfl, rfl, rfl⟩) (fun S1 c1 c2 c3 _ => ?_)
  refine ev_up (fun n => e_X12_link_149) ?_
  unfold b_X12_link_149
  refine ev_gg (by first | omega | (constructor <;> omega)) ?_
  refine ev_ite (fun _ => ?_) (fun z => by omega)
  refine ev_gv ?_
  refine ev_up (fun n => e_X12_link_4) ?_
  unfold b_X12_link_4
  refine ev_gg (by first | omega | (constructor <;> omega)) ?_
  refine ev_gv ?_
  rw [Int.toNat_natCast, c1.1]
  refine ev_gg (by first | omega | (constructor <;> omega)) ?_
  refine ev_gg (by first | omega | (constructor <;> omega)) ?_
  refine ev_ite (fun _ => ?_) (fun z => by omega)
  refine ev_ret ⟨⟨c1.1, hl, fun i hi => ?_, hr⟩, fc_mono c3 (fun c j z => by omega)⟩
  have a := c2 i (by omega) (by omega)
  have b := c1.2 i hi
  exact ⟨b.1, a.1, a.2.1, b.2, a.2.2⟩
end LNK
