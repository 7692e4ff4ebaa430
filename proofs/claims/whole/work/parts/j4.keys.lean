/-! THE REFERENCE: KEYS, VALUES of a group, words -/
/-- KEYS beside each other, as the reference tells it -/
def bk : List Int → List Int → Int
  | [], b => -(b.length : Int)
  | x :: a, [] => ((x :: a).length : Int)
  | x :: a, y :: b => if x = y then bk a b else if x < y then -1 else 1
theorem bk_nil {a : List Int} : bk a [] = (a.length : Int) := by
  cases a <;> rfl
theorem bk_ok : ∀ (a b : List Int), (bk a b = 0 ↔ oK a b = 0) ∧ (0 < bk a b ↔ 0 < oK a b) ∧ (bk a b < 0 ↔ oK a b < 0)
  | [], [] => by simp [bk, oK]
  | [], y :: b => by
    unfold bk oK
    rw [List.length_cons]
    omega
  | x :: a, [] => by
    unfold bk oK
    rw [List.length_cons]
    omega
  | x :: a, y :: b => by
    unfold bk oK
    by_cases c : x = y
    · rw [if_pos c, if_pos c]
      exact bk_ok a b
    · rw [if_neg c, if_neg c]
      by_cases c2 : x < y
      · rw [if_pos c2]; omega
      · rw [if_neg c2]; omega
theorem bk_eq : ∀ (a b : List Int), bk a b = 0 ↔ a = b
  | [], [] => by simp [bk]
  | [], y :: b => by
    unfold bk
    rw [List.length_cons]
    constructor
    · intro h; omega
    · intro h; cases h
  | x :: a, [] => by
    unfold bk
    rw [List.length_cons]
    constructor
    · intro h; omega
    · intro h; cases h
  | x :: a, y :: b => by
    unfold bk
    by_cases c : x = y
    · rw [if_pos c, bk_eq a b]
      constructor
      · intro h; rw [c, h]
      · intro h; exact (List.cons.inj h).2
    · rw [if_neg c]
      constructor
      · intro h
        split at h <;> omega
      · intro h; exact absurd (List.cons.inj h).1 c
theorem bk_r : ∀ (a b : List Int), -((b.length : Int) + 1) ≤ bk a b ∧ bk a b ≤ (a.length : Int) + 1
  | [], b => by unfold bk; constructor <;> simp <;> omega
  | x :: a, [] => by unfold bk; constructor <;> simp <;> omega
  | x :: a, y :: b => by
    have := bk_r a b
    unfold bk
    rw [List.length_cons, List.length_cons]
    by_cases c : x = y
    · rw [if_pos c]; omega
    · rw [if_neg c]
      split <;> omega
theorem drop_hd {q a : List Int} {t : Nat} {x : Int} (h : q.drop t = x :: a) : t < q.length ∧ q.getD t 0 = x ∧ q.drop (t + 1) = a := by
  have l : t < q.length := by
    by_cases c : t < q.length
    · exact c
    · rw [List.drop_eq_nil_of_le (by omega)] at h; cases h
  rw [List.drop_eq_getElem_cons l] at h
  have h1 := List.cons.inj h
  refine ⟨l, ?_, h1.2⟩
  rw [List.getD_eq_getElem?_getD, List.getElem?_eq_getElem l]
  exact h1.1
theorem drop_nl {q : List Int} {t : Nat} (h : q.drop t = []) : q.length ≤ t := List.drop_eq_nil_iff.mp h
theorem drop_ln {q a : List Int} {t : Nat} (h : q.drop t = a) (ht : t ≤ q.length) : q.length = t + a.length := by
  rw [← h, List.length_drop]; omega
section RK1
variable {S : GS} {d : Nat}
theorem q_byKeys {k i f j : Int} {A B : Nat} {x y : ND} (hd : 1 ≤ d) (ha : (101 * k + i) * 61 = (A : Int)) (hb : (101 * f + j) * 61 = (B : Int)) (hA : A + 61 ≤ 295728) (hB : B + 61 ≤ 295728) (h1 : CR S A x) (h2 : CR S B y) (n1 : x.2.2.2.2.length ≤ 12 ∧ ∀ z ∈ x.2.2.2.2, 0 ≤ z ∧ z < 256) (n2 : y.2.2.2.2.length ≤ 12 ∧ ∀ z ∈ y.2.2.2.2, 0 ≤ z ∧ z < 256) : Rd (fun n => f_X12_byKeys n d 0 S [k, i, f, j]) (bk x.2.2.2.2 y.2.2.2.2) S := by
  have s1 := h1.2.1
  have s2 := h2.2.1
  have tl : Rd (fun n => f_X12_byKeys n d 116 S [(A : Int), (B : Int)]) ((x.2.2.2.2.length : Int) - (y.2.2.2.2.length : Int)) S := by
    refine ev_up (fun n => e_X12_byKeys_116) ?_
    unfold b_X12_byKeys_116
    refine ev_gv ?_
    refine ev_gg (by first | omega | (constructor <;> omega)) ?_
    refine ev_gv ?_
    refine ev_gv ?_
    refine ev_gg (by first | omega | (constructor <;> omega)) ?_
    refine ev_gv ?_
    refine ev_gv ?_
    rw [show ((A : Int) + 5).toNat = A + 5 by omega, show ((B : Int) + 5).toNat = B + 5 by omega, s1, s2]
    exact ev_ret ⟨rfl, rfl⟩
  have lp : ∀ (a b : List Int) (t : Nat), t ≤ x.2.2.2.2.length → t ≤ y.2.2.2.2.length → x.2.2.2.2.drop t = a → y.2.2.2.2.drop t = b → Rd (fun n => f_X12_byKeys n d 18 S [(A : Int), (B : Int), (t : Int)]) (bk a b) S := by
    intro a
    induction a with
    | nil =>
      intro b t t1 t2 e1 e2
      have l1 := drop_nl e1
      have l2 := drop_ln e2 t2
      refine ev_up (fun n => e_X12_byKeys_18) ?_
      unfold b_X12_byKeys_18
      refine ev_gv ?_
      refine ev_gg (by first | omega | (constructor <;> omega)) ?_
      refine ev_gv ?_
      rw [show ((A : Int) + 5).toNat = A + 5 by omega, s1]
      refine ev_gg (by first | omega | (constructor <;> omega)) ?_
      refine ev_gg (by first | omega | (constructor <;> omega)) ?_
      refine ev_ite (fun _ => ?_) (fun z => by omega)
      refine rd_as tl ?_
      unfold bk
      omega
    | cons p a ih =>
      intro b t t1 t2 e1 e2
      obtain ⟨l1, g1, r1⟩ := drop_hd e1
      have l2 := drop_ln e2 t2
      have l3 := drop_ln e1 t1
      refine ev_up (fun n => e_X12_byKeys_18) ?_
      unfold b_X12_byKeys_18
      refine ev_gv ?_
      refine ev_gg (by first | omega | (constructor <;> omega)) ?_
      refine ev_gv ?_
      rw [show ((A : Int) + 5).toNat = A + 5 by omega, s1]
      refine ev_gg (by first | omega | (constructor <;> omega)) ?_
      refine ev_gg (by first | omega | (constructor <;> omega)) ?_
      refine ev_ite (fun z => by omega) (fun _ => ?_)
      refine ev_gv ?_
      refine ev_gg (by first | omega | (constructor <;> omega)) ?_
      refine ev_gv ?_
      rw [show ((B : Int) + 5).toNat = B + 5 by omega, s2]
      refine ev_gg (by first | omega | (constructor <;> omega)) ?_
      cases b with
      | nil =>
        have l4 := drop_nl e2
        refine ev_ite (fun _ => ?_) (fun z => by omega)
        refine rd_as tl ?_
        rw [bk_nil]
        omega
      | cons q b =>
        obtain ⟨l4, g4, r4⟩ := drop_hd e2
        have c1 := h1.2.2.1 t l1
        have c2 := h2.2.2.1 t l4
        rw [g1] at c1
        rw [g4] at c2
        have m1 := n1.2 p (by rw [← g1, List.getD_eq_getElem?_getD, List.getElem?_eq_getElem l1]; exact List.getElem_mem l1)
        have m2 := n2.2 q (by rw [← g4, List.getD_eq_getElem?_getD, List.getElem?_eq_getElem l4]; exact List.getElem_mem l4)
        refine ev_ite (fun z => by omega) (fun _ => ?_)
        refine ev_gv ?_
        refine ev_gv ?_
        refine ev_gg (by first | omega | (constructor <;> omega)) ?_
        refine ev_gv ?_
        refine ev_gv ?_
        refine ev_gv ?_
        refine ev_gg (by first | omega | (constructor <;> omega)) ?_
        refine ev_gv ?_
        rw [show ((A : Int) + 6 + (t : Int)).toNat = A + 6 + t by omega, show ((B : Int) + 6 + (t : Int)).toNat = B + 6 + t by omega, c1, c2]
        refine ev_gg (by first | omega | (constructor <;> omega)) ?_
        refine ev_gg (by first | omega | (constructor <;> omega)) ?_
        unfold bk
        refine ev_ite (fun z => ?_) (fun z => ?_)
        · rw [if_pos z]
          refine ev_gv ?_
          rw [show (t : Int) + 1 = ((t + 1 : Nat) : Int) by omega]
          exact ih b (t + 1) (by omega) (by omega) r1 r4
        · rw [if_neg z]
          refine ev_gv ?_
          refine ev_gv ?_
          refine ev_gg (by first | omega | (constructor <;> omega)) ?_
          refine ev_gv ?_
          refine ev_gv ?_
          refine ev_gv ?_
          refine ev_gg (by first | omega | (constructor <;> omega)) ?_
          refine ev_gv ?_
          rw [show ((A : Int) + 6 + (t : Int)).toNat = A + 6 + t by omega, show ((B : Int) + 6 + (t : Int)).toNat = B + 6 + t by omega, c1, c2]
          refine ev_gg (by first | omega | (constructor <;> omega)) ?_
          refine ev_gg (by first | omega | (constructor <;> omega)) ?_
          refine ev_ite (fun z2 => ?_) (fun z2 => ?_)
          · exact ev_ret ⟨by rw [if_neg (by omega)], rfl⟩
          · exact ev_ret ⟨by rw [if_pos (by omega)], rfl⟩
  refine ev_up (fun n => e_X12_byKeys_0) ?_
  unfold b_X12_byKeys_0
  refine ev_gg (by first | omega | (constructor <;> omega)) ?_
  refine ev_gcr (q_at) ?_
  refine ev_gcr (q_at) ?_
  rw [ha, hb]
  exact lp _ _ 0 (Nat.zero_le _) (Nat.zero_le _) rfl rfl
end RK1
theorem lk_key {S : GS} {K : Nat} {V : List ND} (h : LK S K V) {i : Nat} (hi : i < V.length) : (V.getD i nd0).2.2.2.2.length ≤ 12 ∧ ∀ z ∈ (V.getD i nd0).2.2.2.2, 0 ≤ z ∧ z < 256 := by
  have := h.2.2.2 _ (nd_mem hi)
  exact ⟨this.2.2.2.2.2.2.2.2.1, this.2.2.2.2.2.2.2.2.2⟩
section RK2
variable {S : GS} {d K : Nat} {V : List ND}
theorem q_kindL {k i : Int} {I : Nat} (hd : 1 ≤ d) (hk : k = (K : Int)) (hK : K < 48) (hi : i = (I : Int)) (h : LK S K V) (hI : I < V.length) : Rd (fun n => f_X12_kind n d 0 S [k, i]) (nk V I) S := by
  have l := h.2.1
  have := q_kind (S := S) (d := d) (k := k) (i := i) (6161 * K + 61 * I) hd (by omega) (by omega)
  rw [(h.2.2.1 I hI).1.1] at this
  exact this
theorem q_endL {k i : Int} {I : Nat} (hd : 2 ≤ d) (hk : k = (K : Int)) (hK : K < 48) (hi : i = (I : Int)) (h : LK S K V) (hI : I < V.length) : Rd (fun n => f_X12_endOf n d 0 S [k, i]) ((I + nz V I : Nat) : Int) S := by
  have l := h.2.1
  subst hi
  have := q_endOf (S := S) (d := d) (k := k) (i := (I : Int)) (6161 * K + 61 * I + 4) hd (by omega) (by omega)
  rw [(h.2.2.1 I hI).2.2.2.2] at this
  exact rd_as this (by omega)
theorem q_manyL {k i : Int} {I : Nat} (hd : 1 ≤ d) (hk : k = (K : Int)) (hK : K < 48) (hi : i = (I : Int)) (h : LK S K V) (hI : I < V.length) : Rd (fun n => f_X12_part n d 0 S [k, i, 3]) ((kids V I).length : Int) S := by
  have l := h.2.1
  have := q_part (S := S) (d := d) (k := k) (i := i) (w := 3) (6161 * K + 61 * I + 3) hd (by omega) (by omega)
  rw [(h.2.2.1 I hI).2.2.2.1] at this
  exact this
theorem q_parentL {k i : Int} {I : Nat} (hd : 1 ≤ d) (hk : k = (K : Int)) (hK : K < 48) (hi : i = (I : Int)) (h : LK S K V) (hI : I < V.length) : Rd (fun n => f_X12_part n d 0 S [k, i, 1]) (owI V I) S := by
  have l := h.2.1
  have := q_part (S := S) (d := d) (k := k) (i := i) (w := 1) (6161 * K + 61 * I + 1) hd (by omega) (by omega)
  rw [(h.2.2.1 I hI).2.1] at this
  exact this
theorem q_placeL {k i : Int} {I : Nat} (hd : 1 ≤ d) (hk : k = (K : Int)) (hK : K < 48) (hi : i = (I : Int)) (h : LK S K V) (hI : I < V.length) : Rd (fun n => f_X12_part n d 0 S [k, i, 2]) (plI V I) S := by
  have l := h.2.1
  have := q_part (S := S) (d := d) (k := k) (i := i) (w := 2) (6161 * K + 61 * I + 2) hd (by omega) (by omega)
  rw [(h.2.2.1 I hI).2.2.1] at this
  exact this
theorem q_sizeL {k i : Int} {I : Nat} (hd : 1 ≤ d) (hk : k = (K : Int)) (hK : K < 48) (hi : i = (I : Int)) (h : LK S K V) (hI : I < V.length) : Rd (fun n => f_X12_part n d 0 S [k, i, 4]) (nz V I : Int) S := by
  have l := h.2.1
  have := q_part (S := S) (d := d) (k := k) (i := i) (w := 4) (6161 * K + 61 * I + 4) hd (by omega) (by omega)
  rw [(h.2.2.1 I hI).2.2.2.2] at this
  exact this
theorem q_keysL {k i : Int} {I : Nat} (hd : 1 ≤ d) (hk : k = (K : Int)) (hK : K < 48) (hi : i = (I : Int)) (h : LK S K V) (hI : I < V.length) : Rd (fun n => f_X12_part n d 0 S [k, i, 5]) ((nq V I).length : Int) S := by
  have l := h.2.1
  have := q_part (S := S) (d := d) (k := k) (i := i) (w := 5) (6161 * K + 61 * I + 5) hd (by omega) (by omega)
  rw [(h.2.2.1 I hI).1.2.1] at this
  exact this
theorem q_keyL {k i w : Int} {I J : Nat} (hd : 1 ≤ d) (hk : k = (K : Int)) (hK : K < 48) (hi : i = (I : Int)) (hw : w = 6 + (J : Int)) (h : LK S K V) (hI : I < V.length) (hJ : J < (nq V I).length) : Rd (fun n => f_X12_part n d 0 S [k, i, w]) ((nq V I).getD J 0) S := by
  have l := h.2.1
  have l2 := (lk_key h hI).1
  have hJ' : J < 12 := by
    have : (nq V I).length ≤ 12 := l2
    omega
  have := q_part (S := S) (d := d) (k := k) (i := i) (w := w) (6161 * K + 61 * I + 6 + J) hd (by omega) (by omega)
  rw [(h.2.2.1 I hI).1.2.2.1 J hJ] at this
  exact this
theorem kid_in3 (hw : WF V) (hz : PZ V) {g c : Nat} (hg : g < V.length) (hc : c ∈ kids V g) : g < c ∧ c < V.length ∧ c + nz V c ≤ g + nz V g := by
  have m := mem_kids hz hc
  have := hw.1 g hg
  have := hw.2.1 g c m.1 m.2
  have := hz c
  omega
/-- where a VALUE of a group stands; the end of the group -/
theorem q_childAt {k g p : Int} {G P : Nat} (hd : 3 ≤ d) (hk : k = (K : Int)) (hK : K < 48) (hg : g = (G : Int)) (hp : p = (P : Int)) (h : LK S K V) (hw : WF V) (hz : PZL V) (hG : G < V.length) (hP : P ≤ (kids V G).length) : Rd (fun n => f_X12_childAt n d 0 S [k, g, p]) (((kids V G).getD P (G + nz V G) : Nat) : Int) S := by
  subst hk hg hp
  have hz' := pz_l hz
  have l := h.2.1
  have kl := kids_le hw hz' (g := G)
  have gl := hw.1 G hG
  have lp : ∀ (t i u : Nat), i ≤ G + nz V G → G < i → u + t = P → t ≤ (ks V i (G + nz V G)).length → Rd (fun n => f_X12_childAt n d 8 S [(K : Int), (P : Int), (i : Int), (u : Int)]) (((ks V i (G + nz V G)).getD t (G + nz V G) : Nat) : Int) S := by
    intro t
    induction t with
    | zero =>
      intro i u i1 i2 hu ht
      refine ev_up (fun n => e_X12_childAt_8) ?_
      unfold b_X12_childAt_8
      refine ev_gg (by first | omega | (constructor <;> omega)) ?_
      refine ev_gg (by first | omega | (constructor <;> omega)) ?_
      refine ev_ite (fun _ => ?_) (fun z => by omega)
      refine ev_ret ⟨?_, rfl⟩
      by_cases c : i < G + nz V G
      · rw [ks_cons hz' c]; rfl
      · rw [ks_nil (by omega)]
        show (i : Int) = ((G + nz V G : Nat) : Int)
        omega
    | succ t ih =>
      intro i u i1 i2 hu ht
      have c : i < G + nz V G := by
        by_cases c : i < G + nz V G
        · exact c
        · rw [ks_nil (by omega)] at ht; simp at ht
      have w2 := hw.2.1 G i i2 c
      have zi := hz' i
      rw [ks_cons hz' c, List.length_cons] at ht
      refine ev_up (fun n => e_X12_childAt_8) ?_
      unfold b_X12_childAt_8
      refine ev_gg (by first | omega | (constructor <;> omega)) ?_
      refine ev_gg (by first | omega | (constructor <;> omega)) ?_
      refine ev_ite (fun z => by omega) (fun _ => ?_)
      refine ev_gg (by first | omega | (constructor <;> omega)) ?_
      refine ev_gcr (q_endL (d := d - 1) (K := K) (I := i) (by omega) rfl hK rfl h (by omega)) ?_
      refine ev_gv ?_
      rw [show (u : Int) + 1 = ((u + 1 : Nat) : Int) by omega]
      refine rd_as (ih (i + nz V i) (u + 1) (by omega) (by omega) (by omega) (by omega)) ?_
      rw [ks_cons hz' c]
      rfl
  refine ev_up (fun n => e_X12_childAt_0) ?_
  unfold b_X12_childAt_0
  refine ev_gv ?_
  rw [show (G : Int) + 1 = ((G + 1 : Nat) : Int) by omega]
  exact lp P (G + 1) 0 (by have := hz' G; omega) (by omega) (by omega) hP
/-- the VALUE of a group with the KEY of a node -/
theorem q_childLike {k g f j : Int} {G B : Nat} {y : ND} (hd : 3 ≤ d) (hk : k = (K : Int)) (hK : K < 48) (hg : g = (G : Int)) (hb : (101 * f + j) * 61 = (B : Int)) (hB : B + 61 ≤ 295728) (h : LK S K V) (hw : WF V) (hz : PZL V) (hG : G < V.length) (h2 : CR S B y) (n2 : y.2.2.2.2.length ≤ 12 ∧ ∀ z ∈ y.2.2.2.2, 0 ≤ z ∧ z < 256) : Rd (fun n => f_X12_childLike n d 0 S [k, g, f, j]) (fdK V y.2.2.2.2 (kids V G)) S := by
  subst hk hg
  have hz' := pz_l hz
  have l := h.2.1
  have kl := kids_le hw hz' (g := G)
  have gl := hw.1 G hG
  have lp : ∀ (t i u : Nat), G < i → i ≤ G + nz V G → (ks V i (G + nz V G)).length = t → u + t = (kids V G).length → Rd (fun n => f_X12_childLike n d 8 S [(K : Int), (G : Int), f, j, (i : Int), (u : Int)]) (fdK V y.2.2.2.2 (ks V i (G + nz V G))) S := by
    intro t
    induction t with
    | zero =>
      intro i u i1 i2 ht hu
      refine ev_up (fun n => e_X12_childLike_8) ?_
      unfold b_X12_childLike_8
      refine ev_gg (by first | omega | (constructor <;> omega)) ?_
      refine ev_gcr (q_manyL (d := d - 1) (K := K) (I := G) (by omega) rfl hK rfl h hG) ?_
      refine ev_gg (by first | omega | (constructor <;> omega)) ?_
      refine ev_gg (by first | omega | (constructor <;> omega)) ?_
      refine ev_ite (fun _ => ?_) (fun z => by omega)
      rw [List.length_eq_zero_iff.mp ht]
      exact ev_ret ⟨rfl, rfl⟩
    | succ t ih =>
      intro i u i1 i2 ht hu
      have c : i < G + nz V G := by
        by_cases c : i < G + nz V G
        · exact c
        · rw [ks_nil (by omega)] at ht; simp at ht
      have w2 := hw.2.1 G i i1 c
      have zi := hz' i
      rw [ks_cons hz' c, List.length_cons] at ht
      rw [ks_cons hz' c]
      refine ev_up (fun n => e_X12_childLike_8) ?_
      unfold b_X12_childLike_8
      refine ev_gg (by first | omega | (constructor <;> omega)) ?_
      refine ev_gcr (q_manyL (d := d - 1) (K := K) (I := G) (by omega) rfl hK rfl h hG) ?_
      refine ev_gg (by first | omega | (constructor <;> omega)) ?_
      refine ev_gg (by first | omega | (constructor <;> omega)) ?_
      refine ev_ite (fun z => by omega) (fun _ => ?_)
      have ir := bk_r (nq V i) y.2.2.2.2
      have i12 : (nq V i).length ≤ 12 := (lk_key h (i := i) (by omega)).1
      refine ev_gcr (q_byKeys (d := d - 1) (A := 6161 * K + 61 * i) (B := B) (x := V.getD i nd0) (y := y) (by omega) (by omega) hb (by omega) hB (h.2.2.1 i (by omega)).1 h2 (lk_key h (by omega)) n2) ?_
      rw [show (V.getD i nd0).2.2.2.2 = nq V i from rfl]
      refine ev_gg (by first | omega | (constructor <;> omega)) ?_
      unfold fdK
      refine ev_ite (fun z => ?_) (fun z => ?_)
      · rw [if_neg (fun e => z ((bk_eq _ _).mpr e))]
        refine ev_gcr (q_endL (d := d - 1) (K := K) (I := i) (by omega) rfl hK rfl h (by omega)) ?_
        refine ev_gv ?_
        rw [show (u : Int) + 1 = ((u + 1 : Nat) : Int) by omega]
        exact ih (i + nz V i) (u + 1) (by omega) (by omega) (by omega) (by omega)
      · rw [if_pos ((bk_eq _ _).mp (by omega))]
        exact ev_ret ⟨rfl, rfl⟩
  refine ev_up (fun n => e_X12_childLike_0) ?_
  unfold b_X12_childLike_0
  refine ev_gv ?_
  rw [show (G : Int) + 1 = ((G + 1 : Nat) : Int) by omega]
  exact lp (kids V G).length (G + 1) 0 (by omega) (by have := hz' G; omega) rfl (by omega)
/-- the word -/
def WD (S : GS) (w : List Int) : Prop := S.1 500 13 = (w.length : Int) ∧ w.length ≤ 900 ∧ (∀ i, i < w.length → S.1 507 i = w.getD i 0) ∧ ∀ x ∈ w, 0 ≤ x ∧ x < 256
theorem wd_fr {P : Nat → Nat → Prop} {S S1 : GS} {w : List Int} (h : WD S w) (hf : FC P S S1) (h1 : ¬ P 500 13) (h2 : ∀ j, ¬ P 507 j) : WD S1 w := ⟨(fc_i hf h1).trans h.1, h.2.1, fun i hi => (fc_i hf (h2 i)).trans (h.2.2.1 i hi), h.2.2.2⟩
theorem getD_in {q : List Int} {t : Nat} (h : t < q.length) : q.getD t 0 ∈ q := by
  rw [List.getD_eq_getElem?_getD, List.getElem?_eq_getElem h]; exact List.getElem_mem h
theorem ext_gD {a b : List Int} (h1 : a.length = b.length) (h2 : ∀ i, i < a.length → a.getD i 0 = b.getD i 0) : a = b := by
  refine List.ext_getElem h1 (fun i x y => ?_)
  have := h2 i x
  rw [List.getD_eq_getElem?_getD, List.getD_eq_getElem?_getD, List.getElem?_eq_getElem x, List.getElem?_eq_getElem y] at this
  exact this
/-- the VALUE of a group whose KEY is the word -/
theorem q_childByWord {k g : Int} {G : Nat} {w : List Int} (hd : 3 ≤ d) (hk : k = (K : Int)) (hK : K < 48) (hg : g = (G : Int)) (h : LK S K V) (hw : WF V) (hz : PZL V) (hG : G < V.length) (hW : WD S w) : Rd (fun n => f_X12_childByWord n d 0 S [k, g]) (fdK V w (kids V G)) S := by
  subst hk hg
  have hz' := pz_l hz
  have l := h.2.1
  have kl := kids_le hw hz' (g := G)
  have gl := hw.1 G hG
  have w1 := hW.1
  have w2 := hW.2.1
  have inn : ∀ (t u i a : Nat) (Q : Int → GS → Prop), i < V.length → (nq V i).length = w.length → u + t = w.length → (∀ j, j < u → (nq V i).getD j 0 = w.getD j 0) → Ev (fun n => f_X12_childByWord n d 91 S [(K : Int), (G : Int), (i : Int), (a : Int), if nq V i = w then 1 else 0]) Q → Ev (fun n => f_X12_childByWord n d 43 S [(K : Int), (G : Int), (i : Int), (a : Int), 1, (u : Int)]) Q := by
    intro t
    induction t with
    | zero =>
      intro u i a Q hi e1 hu hj nx
      refine ev_up (fun n => e_X12_childByWord_43) ?_
      unfold b_X12_childByWord_43
      refine ev_gv ?_
      rw [w1]
      refine ev_gg (by first | omega | (constructor <;> omega)) ?_
      refine ev_gg (by first | omega | (constructor <;> omega)) ?_
      refine ev_ite (fun _ => ?_) (fun z => by omega)
      rw [if_pos (ext_gD e1 (fun j j1 => hj j (by omega)))] at nx
      exact nx
    | succ t ih =>
      intro u i a Q hi e1 hu hj nx
      have r1 := (lk_key h hi).2 _ (getD_in (q := nq V i) (t := u) (by omega))
      have r2 := hW.2.2.2 _ (getD_in (q := w) (t := u) (by omega))
      have l12 : (nq V i).length ≤ 12 := (lk_key h hi).1
      refine ev_up (fun n => e_X12_childByWord_43) ?_
      unfold b_X12_childByWord_43
      refine ev_gv ?_
      rw [w1]
      refine ev_gg (by first | omega | (constructor <;> omega)) ?_
      refine ev_gg (by first | omega | (constructor <;> omega)) ?_
      refine ev_ite (fun z => by omega) (fun _ => ?_)
      refine ev_gg (by first | omega | (constructor <;> omega)) ?_
      refine ev_ite (fun z => by omega) (fun _ => ?_)
      refine ev_gv ?_
      refine ev_gg (by first | omega | (constructor <;> omega)) ?_
      refine ev_gcr (q_keyL (d := d - 1) (K := K) (I := i) (J := u) (by omega) rfl hK rfl rfl h hi (by omega)) ?_
      refine ev_gg (by first | omega | (constructor <;> omega)) ?_
      refine ev_gv ?_
      rw [Int.toNat_natCast, hW.2.2.1 u (by omega)]
      refine ev_gg (by first | omega | (constructor <;> omega)) ?_
      refine ev_gg (by first | omega | (constructor <;> omega)) ?_
      refine ev_ite (fun z => ?_) (fun z => ?_)
      · refine ev_gv ?_
        rw [if_neg (fun e => z (by rw [e]))] at nx
        refine ev_up (fun n => e_X12_childByWord_43) ?_
        unfold b_X12_childByWord_43
        refine ev_gv ?_
        rw [w1]
        refine ev_gg (by first | omega | (constructor <;> omega)) ?_
        refine ev_gg (by first | omega | (constructor <;> omega)) ?_
        refine ev_ite (fun _ => nx) (fun _ => ?_)
        refine ev_gg (by first | omega | (constructor <;> omega)) ?_
        refine ev_ite (fun _ => ?_) (fun z => by omega)
        exact nx
      · refine ev_gv ?_
        rw [show (u : Int) + 1 = ((u + 1 : Nat) : Int) by omega]
        refine ih (u + 1) i a Q hi e1 (by omega) (fun j j1 => ?_) nx
        by_cases c : j = u
        · subst c; omega
        · exact hj j (by omega)
  have lp : ∀ (t i u : Nat), G < i → i ≤ G + nz V G → (ks V i (G + nz V G)).length = t → u + t = (kids V G).length → Rd (fun n => f_X12_childByWord n d 7 S [(K : Int), (G : Int), (i : Int), (u : Int)]) (fdK V w (ks V i (G + nz V G))) S := by
    intro t
    induction t with
    | zero =>
      intro i u i1 i2 ht hu
      refine ev_up (fun n => e_X12_childByWord_7) ?_
      unfold b_X12_childByWord_7
      refine ev_gg (by first | omega | (constructor <;> omega)) ?_
      refine ev_gcr (q_manyL (d := d - 1) (K := K) (I := G) (by omega) rfl hK rfl h hG) ?_
      refine ev_gg (by first | omega | (constructor <;> omega)) ?_
      refine ev_gg (by first | omega | (constructor <;> omega)) ?_
      refine ev_ite (fun _ => ?_) (fun z => by omega)
      rw [List.length_eq_zero_iff.mp ht]
      exact ev_ret ⟨rfl, rfl⟩
    | succ t ih =>
      intro i u i1 i2 ht hu
      have c : i < G + nz V G := by
        by_cases c : i < G + nz V G
        · exact c
        · rw [ks_nil (by omega)] at ht; simp at ht
      have w2' := hw.2.1 G i i1 c
      have zi := hz' i
      rw [ks_cons hz' c, List.length_cons] at ht
      rw [ks_cons hz' c]
      have l12 : (nq V i).length ≤ 12 := (lk_key h (i := i) (by omega)).1
      have fin : Rd (fun n => f_X12_childByWord n d 91 S [(K : Int), (G : Int), (i : Int), (u : Int), if nq V i = w then 1 else 0]) (fdK V w (i :: ks V (i + nz V i) (G + nz V G))) S := by
        unfold fdK
        refine ev_up (fun n => e_X12_childByWord_91) ?_
        unfold b_X12_childByWord_91
        by_cases e : nq V i = w
        · rw [if_pos e, if_pos e]
          refine ev_gg (by first | omega | (constructor <;> omega)) ?_
          refine ev_ite (fun z => by omega) (fun _ => ?_)
          exact ev_ret ⟨rfl, rfl⟩
        · rw [if_neg e, if_neg e]
          refine ev_gg (by first | omega | (constructor <;> omega)) ?_
          refine ev_ite (fun _ => ?_) (fun z => by omega)
          refine ev_gg (by first | omega | (constructor <;> omega)) ?_
          refine ev_gcr (q_endL (d := d - 1) (K := K) (I := i) (by omega) rfl hK rfl h (by omega)) ?_
          refine ev_gv ?_
          rw [show (u : Int) + 1 = ((u + 1 : Nat) : Int) by omega]
          exact ih (i + nz V i) (u + 1) (by omega) (by omega) (by omega) (by omega)
      refine ev_up (fun n => e_X12_childByWord_7) ?_
      unfold b_X12_childByWord_7
      refine ev_gg (by first | omega | (constructor <;> omega)) ?_
      refine ev_gcr (q_manyL (d := d - 1) (K := K) (I := G) (by omega) rfl hK rfl h hG) ?_
      refine ev_gg (by first | omega | (constructor <;> omega)) ?_
      refine ev_gg (by first | omega | (constructor <;> omega)) ?_
      refine ev_ite (fun z => by omega) (fun _ => ?_)
      refine ev_gcr (q_keysL (d := d - 1) (K := K) (I := i) (by omega) rfl hK rfl h (by omega)) ?_
      refine ev_gv ?_
      rw [w1]
      refine ev_gg (by first | omega | (constructor <;> omega)) ?_
      refine ev_gg (by first | omega | (constructor <;> omega)) ?_
      refine ev_ite (fun z => ?_) (fun z => ?_)
      · rw [if_neg (fun e => z (by rw [e]))] at fin
        refine ev_up (fun n => e_X12_childByWord_43) ?_
        unfold b_X12_childByWord_43
        refine ev_gv ?_
        rw [w1]
        refine ev_gg (by first | omega | (constructor <;> omega)) ?_
        refine ev_gg (by first | omega | (constructor <;> omega)) ?_
        refine ev_ite (fun _ => fin) (fun _ => ?_)
        refine ev_gg (by first | omega | (constructor <;> omega)) ?_
        refine ev_ite (fun _ => ?_) (fun z => by omega)
        exact fin
      · exact inn w.length 0 i u _ (by omega) (by omega) (by omega) (fun j j1 => by omega) fin
  refine ev_up (fun n => e_X12_childByWord_0) ?_
  unfold b_X12_childByWord_0
  refine ev_gv ?_
  rw [show (G : Int) + 1 = ((G + 1 : Nat) : Int) by omega]
  exact lp (kids V G).length (G + 1) 0 (by omega) (by have := hz' G; omega) rfl (by omega)
end RK2
