/-! TREES as pieces: a piece is a node and all that is its own -/
def sg (V : List ND) (i : Nat) : List ND := seg V i (nz V i)
def sgsF : Nat → List ND → List (List ND)
  | 0, _ => []
  | f + 1, l => match l with
    | [] => []
    | x :: r => (x :: r).take x.2.1 :: sgsF f ((x :: r).drop x.2.1)
def sgs (l : List ND) : List (List ND) := sgsF l.length l
/-- the VALUES of a piece -/
def kd (T : List ND) : List (List ND) := sgs T.tail
/-- from i to e stand whole pieces -/
def FB (V : List ND) (i e : Nat) : Prop := e ≤ V.length ∧ ∀ j, i ≤ j → j < e → j + nz V j ≤ e
theorem fb_kids {V : List ND} (hw : WF V) {g : Nat} (hg : g < V.length) : FB V (g + 1) (g + nz V g) := ⟨hw.1 g hg, fun j h1 h2 => hw.2.1 g j (by omega) h2⟩
theorem fb_step {V : List ND} {i e j : Nat} (h : FB V i e) (hj : i ≤ j) : FB V j e := ⟨h.1, fun k h1 h2 => h.2 k (by omega) h2⟩
theorem seg_nil {V : List ND} {i : Nat} : seg V i 0 = [] := by unfold seg; simp
theorem drop_cons {V : List ND} {i : Nat} (h : i < V.length) : V.drop i = V.getD i nd0 :: V.drop (i + 1) := by
  rw [List.drop_eq_getElem_cons h, List.getD_eq_getElem?_getD, List.getElem?_eq_getElem h]
  rfl
theorem seg_cons {V : List ND} {i n : Nat} (h : i < V.length) : seg V i (n + 1) = V.getD i nd0 :: seg V (i + 1) n := by
  unfold seg
  rw [drop_cons h, List.take_succ_cons]
theorem seg_take {V : List ND} {i n m : Nat} (h : m ≤ n) : (seg V i n).take m = seg V i m := by
  unfold seg
  rw [List.take_take, Nat.min_eq_left h]
theorem seg_drop {V : List ND} {i n m : Nat} : (seg V i n).drop m = seg V (i + m) (n - m) := by
  unfold seg
  rw [List.drop_take, List.drop_drop]
theorem sgsF_f : ∀ (f f2 : Nat) (l : List ND), (∀ x ∈ l, 1 ≤ x.2.1) → l.length ≤ f → l.length ≤ f2 → sgsF f l = sgsF f2 l := by
  intro f
  induction f with
  | zero =>
    intro f2 l hz h1 h2
    have : l = [] := List.length_eq_zero_iff.mp (by omega)
    subst this
    cases f2 <;> rfl
  | succ f ih =>
    intro f2 l hz h1 h2
    cases l with
    | nil => cases f2 <;> rfl
    | cons x r =>
      cases f2 with
      | zero => simp at h2
      | succ f2 =>
        have z := hz x List.mem_cons_self
        show (x :: r).take x.2.1 :: sgsF f ((x :: r).drop x.2.1) = (x :: r).take x.2.1 :: sgsF f2 ((x :: r).drop x.2.1)
        simp only [List.length_cons] at h1 h2
        rw [ih f2 _ (fun y hy => hz y (List.mem_of_mem_drop hy)) (by rw [List.length_drop, List.length_cons]; omega) (by rw [List.length_drop, List.length_cons]; omega)]
theorem sgs_cons {x : ND} {r : List ND} (hz : ∀ y ∈ x :: r, 1 ≤ y.2.1) : sgs (x :: r) = (x :: r).take x.2.1 :: sgs ((x :: r).drop x.2.1) := by
  have z := hz x List.mem_cons_self
  unfold sgs
  show (x :: r).take x.2.1 :: sgsF r.length ((x :: r).drop x.2.1) = _
  rw [sgsF_f r.length ((x :: r).drop x.2.1).length _ (fun y hy => hz y (List.mem_of_mem_drop hy)) (by rw [List.length_drop, List.length_cons]; omega) (Nat.le_refl _)]
def PZL (V : List ND) : Prop := ∀ x ∈ V, 1 ≤ x.2.1
theorem pz_l {V : List ND} (h : PZL V) : PZ V := by
  intro i
  by_cases hi : i < V.length
  · exact h _ (nd_mem hi)
  · unfold nz
    rw [List.getD_eq_getElem?_getD, List.getElem?_eq_none (by omega)]
    decide
theorem nr_pzl {V : List ND} (h : ∀ x ∈ V, NR x) : PZL V := fun x hx => (h x hx).2.2.1
/-- the pieces from i to e -/
theorem sgs_seg {V : List ND} (hz : PZL V) {e : Nat} : ∀ (m i : Nat), e - i < m → FB V i e → sgs (seg V i (e - i)) = (ks V i e).map (sg V) := by
  intro m
  induction m with
  | zero => intros; omega
  | succ m ih =>
    intro i hm hf
    have hzz := pz_l hz
    by_cases hi : i < e
    · have z := hzz i
      have b := hf.2 i (Nat.le_refl _) hi
      have hv := hf.1
      rw [ks_cons hzz hi, List.map_cons, ← ih (i + nz V i) (by omega) (fb_step hf (by omega))]
      have e1 : seg V i (e - i) = V.getD i nd0 :: seg V (i + 1) (e - i - 1) := by
        rw [← seg_cons (by omega), show e - i - 1 + 1 = e - i by omega]
      have h1 : (seg V i (e - i)).take (nz V i) = sg V i := seg_take (by omega)
      have h2 : (seg V i (e - i)).drop (nz V i) = seg V (i + nz V i) (e - (i + nz V i)) := by rw [seg_drop, show e - i - nz V i = e - (i + nz V i) by omega]
      have hz2 : ∀ y ∈ seg V i (e - i), 1 ≤ y.2.1 := fun y hy => hz y (seg_mem hy)
      rw [e1] at hz2
      have k := sgs_cons hz2
      rw [← e1] at k
      rw [k]
      show (seg V i (e - i)).take (nz V i) :: sgs ((seg V i (e - i)).drop (nz V i)) = _
      rw [h1, h2]
    · rw [ks_nil (by omega), show e - i = 0 by omega, seg_nil]
      rfl
theorem sg_cons {V : List ND} {i : Nat} (h : i < V.length) (z : 1 ≤ nz V i) : sg V i = V.getD i nd0 :: seg V (i + 1) (nz V i - 1) := by
  unfold sg
  obtain ⟨n, hn⟩ : ∃ n, nz V i = n + 1 := ⟨nz V i - 1, by omega⟩
  rw [hn, seg_cons h]
  rfl
theorem sg_root {V : List ND} {i : Nat} (h : i < V.length) (z : 1 ≤ nz V i) : (sg V i).getD 0 nd0 = V.getD i nd0 := by
  rw [sg_cons h z]
  rfl
theorem kd_sg {V : List ND} (hz : PZL V) (hw : WF V) {i : Nat} (h : i < V.length) : kd (sg V i) = (kids V i).map (sg V) := by
  have z := pz_l hz i
  unfold kd kids
  rw [← sgs_seg hz _ (i + 1) (Nat.lt_succ_self _) (fb_kids hw h), sg_cons h z]
  show sgs (seg V (i + 1) (nz V i - 1)) = _
  rw [show i + nz V i - (i + 1) = nz V i - 1 by omega]
theorem sg_len {V : List ND} {i : Nat} (hw : WF V) (h : i < V.length) : (sg V i).length = nz V i := seg_len (hw.1 i h)
theorem mem_ks {V : List ND} {e : Nat} (hz : PZ V) : ∀ (m i k : Nat), e - i < m → k ∈ ks V i e → i ≤ k ∧ k < e := by
  intro m
  induction m with
  | zero => intros; omega
  | succ m ih =>
    intro i k hm hk
    by_cases hi : i < e
    · have z := hz i
      rw [ks_cons hz hi] at hk
      rcases List.mem_cons.mp hk with q | q
      · omega
      · have := ih (i + nz V i) k (by omega) q
        omega
    · rw [ks_nil (by omega)] at hk
      cases hk
theorem mem_kids {V : List ND} (hz : PZ V) {g k : Nat} (h : k ∈ kids V g) : g < k ∧ k < g + nz V g := by
  have := mem_ks hz _ (g + 1) k (Nat.lt_succ_self _) h
  omega
/-- the root's kind, size, power, signs, KEY -/
def rk (T : List ND) : Int := nk T 0
def rz (T : List ND) : Nat := nz T 0
def rp (T : List ND) : Int := np T 0
def rt (T : List ND) : List Int := nt T 0
def rq (T : List ND) : List Int := nq T 0
theorem rk_sg {V : List ND} {i : Nat} (h : i < V.length) (z : 1 ≤ nz V i) : rk (sg V i) = nk V i := by
  show ((sg V i).getD 0 nd0).1 = _
  rw [sg_root h z]; rfl
theorem rz_sg {V : List ND} {i : Nat} (h : i < V.length) (z : 1 ≤ nz V i) : rz (sg V i) = nz V i := by
  show ((sg V i).getD 0 nd0).2.1 = _
  rw [sg_root h z]; rfl
theorem rp_sg {V : List ND} {i : Nat} (h : i < V.length) (z : 1 ≤ nz V i) : rp (sg V i) = np V i := by
  show ((sg V i).getD 0 nd0).2.2.1 = _
  rw [sg_root h z]; rfl
theorem rt_sg {V : List ND} {i : Nat} (h : i < V.length) (z : 1 ≤ nz V i) : rt (sg V i) = nt V i := by
  show ((sg V i).getD 0 nd0).2.2.2.1 = _
  rw [sg_root h z]; rfl
theorem rq_sg {V : List ND} {i : Nat} (h : i < V.length) (z : 1 ≤ nz V i) : rq (sg V i) = nq V i := by
  show ((sg V i).getD 0 nd0).2.2.2.2 = _
  rw [sg_root h z]; rfl
/-- depth of a piece -/
def dpS : Nat → List ND → Int
  | 0, T => if 4 ≤ rk T then 1 else 0
  | f + 1, T => if 4 ≤ rk T then (kd T).foldl (fun a k => max a (dpS f k)) 0 + 1 else 0
theorem dpF_S {V : List ND} (hz : PZL V) (hw : WF V) : ∀ (f i : Nat), i < V.length → dpF f V i = dpS f (sg V i) := by
  have hzz := pz_l hz
  intro f
  induction f with
  | zero =>
    intro i hi
    unfold dpF dpS
    rw [rk_sg hi (hzz i)]
  | succ f ih =>
    intro i hi
    unfold dpF dpS
    rw [rk_sg hi (hzz i), kd_sg hz hw hi, List.foldl_map]
    have key : ∀ (l : List Nat) (a : Int), (∀ k ∈ l, k < V.length) → l.foldl (fun a k => max a (dpF f V k)) a = l.foldl (fun a k => max a (dpS f (sg V k))) a := by
      intro l
      induction l with
      | nil => intros; rfl
      | cons k l ihl =>
        intro a hl
        rw [List.foldl_cons, List.foldl_cons, ih k (hl k List.mem_cons_self)]
        exact ihl _ (fun q hq => hl q (List.mem_cons_of_mem _ hq))
    rw [key _ _ (fun k hk => by have := mem_kids hzz hk; have := hw.1 i hi; omega)]
