/-! JOINING: QUARRELS are not more than NODES -/
def suF (g : Nat → Nat) : List Nat → Nat
  | [] => 0
  | c :: K => g c + suF g K
def suK (g : List Int → Nat) : List (List Int) → Nat
  | [] => 0
  | c :: K => g c + suK g K
theorem suK_le {g h : List Int → Nat} {k0 : List Int} {z : Nat} (he : g k0 ≤ z) (hn : ∀ q, q ≠ k0 → g q = h q) : ∀ (ks : List (List Int)), ks.Nodup → suK g ks ≤ (if k0 ∈ ks then z else 0) + suK h ks
  | [], _ => by simp [suK]
  | q :: ks, hd => by
    have hd' := List.nodup_cons.mp hd
    have ih := suK_le he hn ks hd'.2
    unfold suK
    by_cases c : q = k0
    · subst c
      rw [if_neg hd'.1] at ih
      rw [if_pos List.mem_cons_self]
      omega
    · rw [hn q c]
      by_cases m : k0 ∈ ks
      · rw [if_pos m] at ih
        rw [if_pos (List.mem_cons_of_mem _ m)]
        omega
      · rw [if_neg m] at ih
        rw [if_neg (fun w => by rcases List.mem_cons.mp w with e | e; exact c e.symm; exact m e)]
        omega
theorem suF_mono {g h : Nat → Nat} : ∀ (K : List Nat), (∀ c ∈ K, g c ≤ h c) → suF g K ≤ suF h K
  | [], _ => Nat.le_refl _
  | c :: K, H => by
    have := suF_mono K (fun d hd => H d (List.mem_cons_of_mem _ hd))
    have := H c List.mem_cons_self
    unfold suF
    omega
theorem suF_add {g h : Nat → Nat} : ∀ (K : List Nat), suF (fun c => g c + h c) K = suF g K + suF h K
  | [] => rfl
  | c :: K => by
    have := suF_add (g := g) (h := h) K
    unfold suF
    omega
theorem suF_map {V : List ND} {g : List Int → Nat} : ∀ (K : List Nat), suK g (K.map (nq V)) = suF (fun c => g (nq V c)) K
  | [] => rfl
  | c :: K => by
    have := suF_map (V := V) (g := g) K
    rw [List.map_cons]
    unfold suF suK
    omega
theorem suK_app {g : List Int → Nat} : ∀ (K L : List (List Int)), suK g (K ++ L) = suK g K + suK g L
  | [], L => by simp [suK]
  | c :: K, L => by
    have := suK_app (g := g) K L
    rw [List.cons_append]
    show g c + suK g (K ++ L) = g c + suK g K + suK g L
    omega
theorem szI_n {V : List ND} : szI V (-1) = 0 := if_neg (by omega)
theorem szI_c {V : List ND} {i : Nat} (h : i < V.length) : szI V (i : Int) = (nz V i : Int) := by
  unfold szI
  rw [if_pos (by omega), Int.toNat_natCast]
/-- KEYS none twice: VALUES that are found are not more than there are -/
theorem mt_sum {V : List ND} {ks : List (List Int)} (hd : ks.Nodup) : ∀ (K : List Nat), (∀ c ∈ K, c < V.length) → suK (fun q => (szI V (fdK V q K)).toNat) ks ≤ suF (fun c => if nq V c ∈ ks then nz V c else 0) K
  | [], _ => by
    have : ∀ ks : List (List Int), suK (fun q => (szI V (fdK V q [])).toNat) ks = 0 := by
      intro ks
      induction ks with
      | nil => rfl
      | cons q ks ih =>
        show (szI V (-1)).toNat + suK _ ks = 0
        rw [ih, szI_n]
        rfl
    rw [this]
    exact Nat.zero_le _
  | c :: K, h => by
    have ih := mt_sum hd K (fun d hd => h d (List.mem_cons_of_mem _ hd))
    have hc := h c List.mem_cons_self
    have := suK_le (g := fun q => (szI V (fdK V q (c :: K))).toNat) (h := fun q => (szI V (fdK V q K)).toNat) (k0 := nq V c) (z := nz V c) (by
      show (szI V (if nq V c = nq V c then (c : Int) else _)).toNat ≤ _
      rw [if_pos rfl, szI_c hc]
      omega) (fun q hq => by
      show (szI V (if nq V c = q then (c : Int) else _)).toNat = _
      rw [if_neg (fun e => hq e.symm)]) ks hd
    show _ ≤ (if nq V c ∈ ks then nz V c else 0) + suF _ K
    omega
/-- the sizes of VALUES of a group -/
theorem ks_sum {V : List ND} (hz : PZ V) {e : Nat} : ∀ (m i : Nat), e - i < m → (∀ k, i ≤ k → k < e → k + nz V k ≤ e) → suF (nz V) (ks V i e) ≤ e - i
  | 0, i, h, _ => by omega
  | m + 1, i, h, hk => by
    by_cases c : i < e
    · rw [ks_cons hz c]
      have z := hz i
      have w := hk i (Nat.le_refl _) c
      have := ks_sum hz (e := e) m (i + nz V i) (by omega) (fun k a b => hk k (by omega) b)
      unfold suF
      omega
    · rw [ks_nil (by omega)]
      exact Nat.zero_le _
theorem kids_sum {V : List ND} (hw : WF V) (hz : PZ V) {g : Nat} : suF (nz V) (kids V g) ≤ nz V g - 1 := by
  have := ks_sum hz (e := g + nz V g) _ (g + 1) (Nat.lt_succ_self _) (fun k a b => hw.2.1 g k (by omega) b)
  unfold kids
  omega
/-- KEYS of a MAP are none twice -/
def KUV (V : List ND) : Prop := ∀ i, i < V.length → nk V i = 5 → ((kids V i).map (nq V)).Nodup
section JSUM
variable {O A B : List ND}
/-- keys of what is asked for -/
theorem fdK_m1 {V : List ND} {q : List Int} : ∀ (K : List Nat), fdK V q K = -1 → q ∉ K.map (nq V)
  | [], _ => by simp
  | c :: K, h => by
    unfold fdK at h
    by_cases e : nq V c = q
    · rw [if_pos e] at h; omega
    · rw [if_neg e] at h
      rw [List.map_cons]
      intro w
      rcases List.mem_cons.mp w with y | y
      · exact e y.symm
      · exact fdK_m1 K h y
theorem fdK_in {V : List ND} {q : List Int} : ∀ (K : List Nat), fdK V q K ≠ -1 → q ∈ K.map (nq V) := by
  intro K h
  rcases fdK_mem (V := V) (key := q) K with z | ⟨k, z1, z2, z3⟩
  · exact absurd z h
  · exact List.mem_map.mpr ⟨k, z1, z3⟩
/-- a MAP, or none -/
abbrev mpO (O : List ND) (o : Int) : Prop := o = -1 ∨ (0 ≤ o ∧ o < (O.length : Int) ∧ nk O o.toNat = 5)
theorem vLk_m1 {o : Int} (h : mpO O o) (q : List Int) : vLk O o q = -1 ↔ q ∉ (kidI O o).map (nq O) := by
  unfold vLk kidI
  rcases h with rfl | ⟨a, b, c⟩
  · rw [if_neg (by omega), if_pos rfl]
    simp
  · rw [if_pos ⟨a, b⟩, if_neg (by omega)]
    unfold kidsM
    rw [if_pos c]
    refine ⟨fdK_m1 _, fun w => ?_⟩
    by_cases e : fdK O q (kids O o.toNat) = -1
    · exact e
    · exact absurd (fdK_in _ e) w
theorem vLk_c {a : Nat} (h : a < A.length) (h5 : nk A a = 5) (q : List Int) : vLk A (a : Int) q = fdK A q (kids A a) := by
  unfold vLk kidsM
  rw [if_pos (by omega), Int.toNat_natCast, if_pos h5]
def s1F (O A B : List ND) (a b : Int) (K : List Nat) : Nat := suF (fun c => (szI A (vLk A a (nq O c))).toNat + (szI B (vLk B b (nq O c))).toNat) K
def s2F (O A B : List ND) (o b : Int) : List Nat → Nat
  | [] => 0
  | c :: K => (if vLk O o (nq A c) = -1 then nz A c + (szI B (vLk B b (nq A c))).toNat else 0) + s2F O A B o b K
theorem s2_fil {o b : Int} : ∀ (K : List Nat), s2F O A B o b K = suF (fun c => if vLk O o (nq A c) = -1 then nz A c else 0) K + suK (fun q => (szI B (vLk B b q)).toNat) ((K.map (nq A)).filter (fun q => decide (vLk O o q = -1)))
  | [] => rfl
  | c :: K => by
    have := s2_fil (o := o) (b := b) K
    rw [List.map_cons]
    unfold s2F suF
    by_cases e : vLk O o (nq A c) = -1
    · rw [if_pos e, List.filter_cons_of_pos (by rw [e]; rfl)]
      show _ = (if vLk O o (nq A c) = -1 then nz A c else 0) + suF _ K + ((szI B (vLk B b (nq A c))).toNat + suK _ _)
      rw [if_pos e]
      omega
    · rw [if_neg e, List.filter_cons_of_neg (by simpa using e)]
      show _ = (if vLk O o (nq A c) = -1 then nz A c else 0) + suF _ K + _
      rw [if_neg e]
      omega
theorem js_all {o : Int} {a b : Nat} (hO : WF O) (hA : WF A) (hB : WF B) (zA : PZ A) (zB : PZ B) (uO : KUV O) (uA : KUV A) (ho : mpO O o) (ha : a < A.length ∧ nk A a = 5) (hb : b < B.length ∧ nk B b = 5) : s1F O A B a b (kidI O o) + s2F O A B o b (kids A a) ≤ (nz A a - 1) + (nz B b - 1) := by
  have nO : ((kidI O o).map (nq O)).Nodup := by
    unfold kidI
    rcases ho with rfl | ⟨x, y, z⟩
    · rw [if_pos rfl]; simp
    · rw [if_neg (by omega)]; exact uO _ (by omega) z
  have nA := uA a ha.1 ha.2
  generalize hk : (kidI O o).map (nq O) = ks at *
  have vO : ∀ q, vLk O o q = -1 ↔ q ∉ ks := fun q => by rw [← hk]; exact vLk_m1 ho q
  -- the keys that B is asked for
  generalize hf : ((kids A a).map (nq A)).filter (fun q => decide (vLk O o q = -1)) = fs
  have nf : fs.Nodup := by rw [← hf]; exact nA.filter _
  have nB : (ks ++ fs).Nodup := List.nodup_append.mpr ⟨nO, nf, fun x hx y hy e => by
    subst e
    rw [← hf] at hy
    have := (List.mem_filter.mp hy).2
    exact (vO x).mp (by simpa using this) hx⟩
  have e1 : s1F O A B a b (kidI O o) = suK (fun q => (szI A (vLk A a q)).toNat) ks + suK (fun q => (szI B (vLk B b q)).toNat) ks := by
    rw [← hk, suF_map, suF_map, ← suF_add]
    rfl
  have e2 := s2_fil (O := O) (A := A) (B := B) (o := o) (b := (b : Int)) (kids A a)
  rw [hf] at e2
  have eA : (fun q => (szI A (vLk A (a : Int) q)).toNat) = (fun q => (szI A (fdK A q (kids A a))).toNat) := by
    funext q; rw [vLk_c ha.1 ha.2]
  have eB : (fun q => (szI B (vLk B (b : Int) q)).toNat) = (fun q => (szI B (fdK B q (kids B b))).toNat) := by
    funext q; rw [vLk_c hb.1 hb.2]
  have mA := mt_sum (V := A) nO (kids A a) (fun c hc => kids_in hA zA ha.1 hc)
  have mB := mt_sum (V := B) nB (kids B b) (fun c hc => kids_in hB zB hb.1 hc)
  rw [← eA] at mA
  rw [← eB, suK_app] at mB
  have sA := kids_sum hA zA (g := a)
  have sB := kids_sum hB zB (g := b)
  have lB : suF (fun c => if nq B c ∈ ks ++ fs then nz B c else 0) (kids B b) ≤ suF (nz B) (kids B b) := suF_mono _ (fun c _ => by
    show (if nq B c ∈ ks ++ fs then nz B c else 0) ≤ nz B c
    split <;> omega)
  have lA : suF (fun c => if nq A c ∈ ks then nz A c else 0) (kids A a) + suF (fun c => if vLk O o (nq A c) = -1 then nz A c else 0) (kids A a) ≤ suF (nz A) (kids A a) := by
    rw [← suF_add]
    refine suF_mono _ (fun c _ => ?_)
    by_cases e : nq A c ∈ ks
    · rw [if_pos e, if_neg (fun w => (vO _).mp w e)]; omega
    · rw [if_neg e, if_pos ((vO _).mpr e)]; omega
  rw [e1, e2]
  omega
end JSUM
