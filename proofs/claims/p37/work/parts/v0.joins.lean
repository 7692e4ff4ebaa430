/-! p37: joining gives the same whichever is told first -/
theorem suK_mono {g h : List Int → Nat} : ∀ (L : List (List Int)), (∀ q ∈ L, g q ≤ h q) → suK g L ≤ suK h L
  | [], _ => Nat.le_refl _
  | q :: L, e => by
    have a := e q List.mem_cons_self
    have b := suK_mono L (fun r hr => e r (List.mem_cons_of_mem _ hr))
    show g q + suK g L ≤ h q + suK h L
    omega
theorem suK_cg {g h : List Int → Nat} : ∀ (L : List (List Int)), (∀ q ∈ L, g q = h q) → suK g L = suK h L
  | [], _ => rfl
  | q :: L, e => by
    show g q + suK g L = h q + suK h L
    rw [e q List.mem_cons_self, suK_cg L (fun r hr => e r (List.mem_cons_of_mem _ hr))]
theorem suK_add {g h : List Int → Nat} : ∀ (L : List (List Int)), suK (fun q => g q + h q) L = suK g L + suK h L
  | [] => rfl
  | q :: L => by
    show g q + h q + suK (fun q => g q + h q) L = g q + suK g L + (h q + suK h L)
    rw [suK_add L]
    omega
theorem suK_perm {g : List Int → Nat} {L M : List (List Int)} (p : L.Perm M) : suK g L = suK g M := by
  induction p with
  | nil => rfl
  | cons x _ ih =>
    show g x + suK g _ = g x + suK g _
    rw [ih]
  | swap x y l =>
    show g y + (g x + suK g l) = g x + (g y + suK g l)
    omega
  | trans _ _ i1 i2 => exact i1.trans i2
theorem suK_0 {g : List Int → Nat} : ∀ (L : List (List Int)), (∀ q ∈ L, g q = 0) → suK g L = 0
  | [], _ => rfl
  | q :: L, e => by
    show g q + suK g L = 0
    rw [e q List.mem_cons_self, suK_0 L (fun r hr => e r (List.mem_cons_of_mem _ hr))]
theorem vl_self {V : List ND} (hV : SDC V) {n c : Nat} (hn : n < V.length) (h5 : nk V n = 5) (hc : c ∈ kids V n) : vLk V (n : Int) (nq V c) = (c : Int) := by
  have u := kuv_sdc hV n hn h5
  obtain ⟨K1, K2, e⟩ := List.append_of_mem hc
  rw [e, List.map_append, List.map_cons, List.nodup_append] at u
  rw [vLk_n hn, if_pos h5, e]
  exact fdK_hit rfl K1 (fun x hx z => u.2.2 _ (List.mem_map_of_mem hx) _ List.mem_cons_self z)
section JNS
variable {O A B : List ND}
/-- the keys of what is joined, in the order of the class -/
def jKs (O A B : List ND) (o a b : Int) : List (List Int) := (kidI O o).map (nq O) ++ ((kidI A a).map (nq A)).filter (fun q => decide (vLk O o q = -1)) ++ ((kidI B b).map (nq B)).filter (fun q => decide (vLk O o q = -1 ∧ vLk A a q = -1))
/-- what comes at a KEY -/
abbrev jAt (O A B : List ND) (f : Nat) (p : List Int) (o a b : Int) (q : List Int) : JR := jnF O A B f p (vLk O o q) (vLk A a q) (vLk B b q)
/-- one that only b has -/
theorem j_only {f : Nat} {p : List Int} {c : Int} (hc : 0 ≤ c) : jnF O A B f p (-1) (-1) c = (acT B c, []) := by
  have n1 : ¬ (alk A (-1) B c ∨ alk B c O (-1)) := fun z => by
    rcases z with z | z
    · unfold alk at z
      rw [if_pos (Or.inl rfl)] at z
      omega
    · unfold alk at z
      rw [if_pos (Or.inr rfl)] at z
      omega
  have y1 : alk A (-1) O (-1) := by
    unfold alk
    rw [if_pos (Or.inl rfl)]
  cases f with
  | zero =>
    show (if alk A (-1) B c ∨ alk B c O (-1) then _ else if alk A (-1) O (-1) then _ else _) = _
    rw [if_neg n1, if_pos y1]
  | succ f =>
    show (if alk A (-1) B c ∨ alk B c O (-1) then _ else if alk A (-1) O (-1) then _ else _) = _
    rw [if_neg n1, if_pos y1]
theorem kidI_n {V : List ND} {n : Nat} : kidI V (n : Int) = kids V n := by
  unfold kidI
  rw [if_neg (by omega), Int.toNat_natCast]
theorem kidI_c {V : List ND} {o : Int} (ho : mpO V o) {c : Nat} (hc : c ∈ kidI V o) : ∃ n : Nat, o = (n : Int) ∧ n < V.length ∧ nk V n = 5 ∧ c ∈ kids V n := by
  rcases ho with z | ⟨z1, z2, z3⟩
  · rw [z] at hc; cases hc
  · refine ⟨o.toNat, by omega, by omega, z3, ?_⟩
    unfold kidI at hc
    rw [if_neg (by omega)] at hc
    exact hc
theorem vl_selfI {V : List ND} (hV : SDC V) {o : Int} (ho : mpO V o) {c : Nat} (hc : c ∈ kidI V o) : vLk V o (nq V c) = (c : Int) := by
  obtain ⟨n, e, h1, h2, h3⟩ := kidI_c ho hc
  rw [e]
  exact vl_self hV h1 h2 h3
/-- what joining KEY by KEY gives, and what is told of each -/
theorem j_keys {α : Type} {g : List Int → Int → Int → Int → JR} {o a b : Int} {p : List Int} (hO : SDC O) (hA : SDC A) (hB : SDC B) (ho : mpO O o) (ha : mpO A a) (hb : mpO B b) {N : List Int → List α} {C : List Int → Nat} {φ : List ND → α} (hg : ∀ p q, (g p (vLk O o q) (vLk A a q) (vLk B b q)).1.map φ = N q ∧ (g p (vLk O o q) (vLk A a q) (vLk B b q)).2.length = C q) (h3 : ∀ q c, vLk O o q = -1 → vLk A a q = -1 → vLk B b q = ((c : Nat) : Int) → N q = [φ (sg B c)] ∧ C q = 0) : ((j1F g O A B a b p (kidI O o)).1 ++ (j2F g O A B o b p (kidI A a)).1 ++ j3F O A B o a (kidI B b)).map φ = ((jKs O A B o a b).map N).flatten ∧ ((j1F g O A B a b p (kidI O o)).2 ++ (j2F g O A B o b p (kidI A a)).2).length = suK C (jKs O A B o a b) := by
  have k1 : ∀ K : List Nat, (∀ c ∈ K, c ∈ kidI O o) → (j1F g O A B a b p K).1.map φ = ((K.map (nq O)).map N).flatten ∧ (j1F g O A B a b p K).2.length = suK C (K.map (nq O)) := by
    intro K
    induction K with
    | nil => intro _; exact ⟨rfl, rfl⟩
    | cons c K ih =>
      intro h
      obtain ⟨i1, i2⟩ := ih (fun x hx => h x (List.mem_cons_of_mem _ hx))
      have e := vl_selfI hO ho (h c List.mem_cons_self)
      have hgc := hg (p ++ stp O c) (nq O c)
      rw [e] at hgc
      constructor
      · show ((g (p ++ stp O c) (c : Int) (vLk A a (nq O c)) (vLk B b (nq O c))).1 ++ (j1F g O A B a b p K).1).map φ = _
        rw [List.map_append, hgc.1, i1]
        rfl
      · show ((g (p ++ stp O c) (c : Int) (vLk A a (nq O c)) (vLk B b (nq O c))).2 ++ (j1F g O A B a b p K).2).length = _
        rw [List.length_append, hgc.2, i2]
        rfl
  have k2 : ∀ K : List Nat, (∀ c ∈ K, c ∈ kidI A a) → (j2F g O A B o b p K).1.map φ = (((K.map (nq A)).filter (fun q => decide (vLk O o q = -1))).map N).flatten ∧ (j2F g O A B o b p K).2.length = suK C ((K.map (nq A)).filter (fun q => decide (vLk O o q = -1))) := by
    intro K
    induction K with
    | nil => intro _; exact ⟨rfl, rfl⟩
    | cons c K ih =>
      intro h
      obtain ⟨i1, i2⟩ := ih (fun x hx => h x (List.mem_cons_of_mem _ hx))
      have e := vl_selfI hA ha (h c List.mem_cons_self)
      rw [List.map_cons]
      by_cases z : vLk O o (nq A c) = -1
      · rw [List.filter_cons_of_pos (by rw [z]; rfl)]
        have hgc := hg (p ++ stp A c) (nq A c)
        rw [e, z] at hgc
        have ej : j2F g O A B o b p (c :: K) = ((g (p ++ stp A c) (-1) (c : Int) (vLk B b (nq A c))).1 ++ (j2F g O A B o b p K).1, (g (p ++ stp A c) (-1) (c : Int) (vLk B b (nq A c))).2 ++ (j2F g O A B o b p K).2) := if_pos z
        rw [ej]
        constructor
        · show ((g (p ++ stp A c) (-1) (c : Int) (vLk B b (nq A c))).1 ++ (j2F g O A B o b p K).1).map φ = _
          rw [List.map_append, hgc.1, i1]
          rfl
        · show ((g (p ++ stp A c) (-1) (c : Int) (vLk B b (nq A c))).2 ++ (j2F g O A B o b p K).2).length = _
          rw [List.length_append, hgc.2, i2]
          rfl
      · rw [List.filter_cons_of_neg (by rw [decide_eq_true_eq]; exact z)]
        have ej : j2F g O A B o b p (c :: K) = j2F g O A B o b p K := if_neg z
        rw [ej]
        exact ⟨i1, i2⟩
  have k3 : ∀ K : List Nat, (∀ c ∈ K, c ∈ kidI B b) → (j3F O A B o a K).map φ = (((K.map (nq B)).filter (fun q => decide (vLk O o q = -1 ∧ vLk A a q = -1))).map N).flatten ∧ suK C ((K.map (nq B)).filter (fun q => decide (vLk O o q = -1 ∧ vLk A a q = -1))) = 0 := by
    intro K
    induction K with
    | nil => intro _; exact ⟨rfl, rfl⟩
    | cons c K ih =>
      intro h
      obtain ⟨i1, i2⟩ := ih (fun x hx => h x (List.mem_cons_of_mem _ hx))
      have e := vl_selfI hB hb (h c List.mem_cons_self)
      rw [List.map_cons]
      show (((if vLk O o (nq B c) = -1 ∧ vLk A a (nq B c) = -1 then [sg B c] else []) ++ j3F O A B o a K).map φ = _) ∧ _
      by_cases z : vLk O o (nq B c) = -1 ∧ vLk A a (nq B c) = -1
      · obtain ⟨y1, y2⟩ := h3 (nq B c) c z.1 z.2 e
        rw [if_pos z, List.filter_cons_of_pos (by rw [decide_eq_true_eq]; exact z), List.map_append, i1]
        refine ⟨by show List.map φ [sg B c] ++ _ = N (nq B c) ++ _; rw [y1]; rfl, ?_⟩
        show C (nq B c) + suK C _ = 0
        rw [y2, i2]
      · rw [if_neg z, List.filter_cons_of_neg (by rw [decide_eq_true_eq]; exact z), List.nil_append]
        exact ⟨i1, i2⟩
  obtain ⟨a1, a2⟩ := k1 (kidI O o) (fun c hc => hc)
  obtain ⟨b1, b2⟩ := k2 (kidI A a) (fun c hc => hc)
  obtain ⟨c1, c2⟩ := k3 (kidI B b) (fun c hc => hc)
  unfold jKs
  constructor
  · rw [List.map_append, List.map_append, a1, b1, c1, List.map_append, List.map_append, List.flatten_append, List.flatten_append]
  · rw [List.length_append, a2, b2, suK_app, suK_app, c2]
    rfl
/-- the KEYS are none twice, and the same whichever is told first -/
theorem jKs_nd (hO : SDC O) (hA : SDC A) (hB : SDC B) {o a b : Int} (ho : mpO O o) (ha : mpO A a) (hb : mpO B b) : (jKs O A B o a b).Nodup ∧ ∀ q, q ∈ jKs O A B o a b ↔ (vLk O o q ≠ -1 ∨ vLk A a q ≠ -1 ∨ vLk B b q ≠ -1) := by
  have nk_ : ∀ {V : List ND} {v : Int}, SDC V → mpO V v → ((kidI V v).map (nq V)).Nodup := fun {V v} hV hv => by
    rcases hv with z | ⟨z1, z2, z3⟩
    · rw [z]; exact List.nodup_nil
    · unfold kidI
      rw [if_neg (by omega)]
      exact kuv_sdc hV v.toNat (by omega) z3
  have mO := vLk_m1 (O := O) ho
  have mA := vLk_m1 (O := A) ha
  have mB := vLk_m1 (O := B) hb
  constructor
  · unfold jKs
    rw [List.nodup_append, List.nodup_append]
    refine ⟨⟨nk_ hO ho, (nk_ hA ha).filter _, fun x hx y hy e => ?_⟩, (nk_ hB hb).filter _, fun x hx y hy e => ?_⟩
    · have := (List.mem_filter.mp hy).2
      rw [decide_eq_true_eq, mO, ← e] at this
      exact this hx
    · have h2 := (List.mem_filter.mp hy).2
      rw [decide_eq_true_eq, mO, mA, ← e] at h2
      rcases List.mem_append.mp hx with z | z
      · exact h2.1 z
      · exact h2.2 (List.mem_filter.mp z).1
  · intro q
    unfold jKs
    rw [List.mem_append, List.mem_append, List.mem_filter, List.mem_filter, decide_eq_true_eq, decide_eq_true_eq]
    have tO : vLk O o q ≠ -1 ↔ q ∈ (kidI O o).map (nq O) := by rw [Ne, mO, Decidable.not_not]
    have tA : vLk A a q ≠ -1 ↔ q ∈ (kidI A a).map (nq A) := by rw [Ne, mA, Decidable.not_not]
    have tB : vLk B b q ≠ -1 ↔ q ∈ (kidI B b).map (nq B) := by rw [Ne, mB, Decidable.not_not]
    rw [← tO, ← tA, ← tB]
    by_cases c1 : vLk O o q = -1
    · by_cases c2 : vLk A a q = -1
      · simp [c1, c2]
      · simp [c1, c2]
    · simp [c1]
theorem jKs_perm (hO : SDC O) (hA : SDC A) (hB : SDC B) {o a b : Int} (ho : mpO O o) (ha : mpO A a) (hb : mpO B b) : (jKs O A B o a b).Perm (jKs O B A o b a) := by
  obtain ⟨n1, m1⟩ := jKs_nd hO hA hB ho ha hb
  obtain ⟨n2, m2⟩ := jKs_nd hO hB hA ho hb ha
  refine (List.perm_ext_iff_of_nodup n1 n2).mpr (fun q => ?_)
  rw [m1, m2]
  constructor
  · rintro (z | z | z)
    · exact Or.inl z
    · exact Or.inr (Or.inr z)
    · exact Or.inr (Or.inl z)
  · rintro (z | z | z)
    · exact Or.inl z
    · exact Or.inr (Or.inr z)
    · exact Or.inr (Or.inl z)
/-- how many NODES of a VALUE the KEYS have -/
theorem jKs_sum {V : List ND} (hV : SDC V) {n : Nat} (hn : n < V.length) (h5 : nk V n = 5) {L : List (List Int)} (hd : L.Nodup) : suK (fun q => (szI V (vLk V (n : Int) q)).toNat) L ≤ nz V n - 1 := by
  have e : suK (fun q => (szI V (vLk V (n : Int) q)).toNat) L = suK (fun q => (szI V (fdK V q (kids V n))).toNat) L := suK_cg L (fun q _ => by rw [vLk_c hn h5 q])
  rw [e]
  refine Nat.le_trans (mt_sum hd (kids V n) (fun c hc => kids_in hV.1.1.1 (pz_l hV.1.2) hn hc)) ?_
  refine Nat.le_trans (suF_mono (h := nz V) (kids V n) (fun c _ => ?_)) (kids_sum hV.1.1.1 (pz_l hV.1.2))
  split
  · exact Nat.le_refl _
  · exact Nat.zero_le _
end JNS
