/-! THE PURE LAYER: what the functions that programs are turned into answer -/
def Ev (m : Nat → Option (Int × GS)) (Q : Int → GS → Prop) : Prop := ∃ x S1, Q x S1 ∧ ∃ N, ∀ n, N ≤ n → m n = some (x, S1)
theorem ev_ret {x : Int} {S : GS} {Q : Int → GS → Prop} (h : Q x S) : Ev (fun _ => some (x, S)) Q := ⟨x, S, h, 0, fun _ _ => rfl⟩
theorem ev_gg {p : Prop} [Decidable p] {e : Nat → Option (Int × GS)} {Q : Int → GS → Prop} (hp : p) (h : Ev e Q) : Ev (fun n => gg p (e n)) Q := by
  obtain ⟨x, S1, hq, N, hN⟩ := h
  exact ⟨x, S1, hq, N, fun n hn => by dsimp only; rw [gg_i hp]; exact hN n hn⟩
theorem ev_gv {α : Type} {v : α} {k : Nat → α → Option (Int × GS)} {Q : Int → GS → Prop} (h : Ev (fun n => k n v) Q) : Ev (fun n => gv v (k n)) Q := h
theorem ev_gc {m : Nat → Option (Int × GS)} {k : Nat → Int → GS → Option (Int × GS)} {R Q : Int → GS → Prop} (hm : Ev m R) (h : ∀ x S1, R x S1 → Ev (fun n => k n x S1) Q) : Ev (fun n => gc (m n) (k n)) Q := by
  obtain ⟨x, S1, hr, N, hN⟩ := hm
  obtain ⟨y, S2, hq, M, hM⟩ := h x S1 hr
  exact ⟨y, S2, hq, max N M, fun n hn => by dsimp only; rw [gc_i (hN n (by omega))]; exact hM n (by omega)⟩
theorem ev_ite {p : Prop} [Decidable p] {a b : Nat → Option (Int × GS)} {Q : Int → GS → Prop} (ht : p → Ev a Q) (hf : ¬ p → Ev b Q) : Ev (fun n => if p then a n else b n) Q := by
  by_cases hp : p
  · simp only [if_pos hp]; exact ht hp
  · simp only [if_neg hp]; exact hf hp
theorem ev_up {m m' : Nat → Option (Int × GS)} {Q : Int → GS → Prop} (he : ∀ n, m (n + 1) = m' n) (h : Ev m' Q) : Ev m Q := by
  obtain ⟨x, S1, hq, N, hN⟩ := h
  refine ⟨x, S1, hq, N + 1, fun n hn => ?_⟩
  obtain ⟨k, rfl⟩ : ∃ k, n = k + 1 := ⟨n - 1, by omega⟩
  rw [he]
  exact hN k (by omega)
theorem ev_mono {m : Nat → Option (Int × GS)} {R Q : Int → GS → Prop} (h : Ev m R) (hq : ∀ x S1, R x S1 → Q x S1) : Ev m Q := by
  obtain ⟨x, S1, hr, N, hN⟩ := h
  exact ⟨x, S1, hq x S1 hr, N, hN⟩
theorem ev_gvi {v : Int} {k : Nat → Int → Option (Int × GS)} {Q : Int → GS → Prop} (h : ∀ x, x = v → Ev (fun n => k n x) Q) : Ev (fun n => gv v (k n)) Q := h v rfl
/-- asks, and changes nothing -/
abbrev Rd (m : Nat → Option (Int × GS)) (v : Int) (S : GS) : Prop := Ev m (fun x S1 => x = v ∧ S1 = S)
theorem ev_gcr {m : Nat → Option (Int × GS)} {k : Nat → Int → GS → Option (Int × GS)} {Q : Int → GS → Prop} {v : Int} {S : GS} (hm : Rd m v S) (h : Ev (fun n => k n v S) Q) : Ev (fun n => gc (m n) (k n)) Q :=
  ev_gc hm (fun x S1 hq => by obtain ⟨rfl, rfl⟩ := hq; exact h)
theorem ev_gcx {m : Nat → Option (Int × GS)} {k : Nat → Int → GS → Option (Int × GS)} {Q : Int → GS → Prop} {v : Int} {S : GS} (hm : Rd m v S) (h : ∀ x, x = v → Ev (fun n => k n x S) Q) : Ev (fun n => gc (m n) (k n)) Q := ev_gcr hm (h v rfl)
theorem rd_as {m : Nat → Option (Int × GS)} {v w : Int} {S : GS} (h : Rd m v S) (e : v = w) : Rd m w S := e ▸ h
/-- a row of signs of a tree -/
def isC (c : Nat) : Prop := c < 424 ∧ (c % 8 = 5 ∨ c % 8 = 7)
/-- all ints of a state are ints; signs are signs -/
def Good (S : GS) : Prop := (∀ c k, c < 495 → inr (S.1 c k)) ∧ (∀ c k, isC c → 0 ≤ S.1 c k ∧ S.1 c k < 65536) ∧ ∀ c k, S.2.2 c k < 495
theorem good_gIs {S : GS} {c : Nat} {g : Nat → Int} (h : Good S) (hx : ∀ k, inr (g k)) (hc : isC c → ∀ k, 0 ≤ g k ∧ g k < 65536) : Good (gIs S c g) := by
  refine ⟨fun c' k' h9 => ?_, fun c' k' hc' => ?_, h.2.2⟩
  · by_cases e : c' = c
    · subst e
      rw [gIs_1]
      exact hx _
    · rw [gIs_n e]; exact h.1 _ _ h9
  · by_cases e : c' = c
    · subst e
      rw [gIs_1]
      exact hc hc' _
    · rw [gIs_n e]; exact h.2.1 _ _ hc'
theorem good_gI {S : GS} {c k : Nat} {x : Int} (h : Good S) (hx : inr x) (hc : isC c → 0 ≤ x ∧ x < 65536) : Good (gI S c k x) := by
  refine ⟨fun c' k' h9 => ?_, fun c' k' hc' => ?_, h.2.2⟩
  · by_cases e : c' = c
    · subst e
      rw [gI_1]
      unfold xset
      split
      · exact hx
      · exact h.1 _ _ h9
    · rw [gI_n e]; exact h.1 _ _ h9
  · by_cases e : c' = c
    · subst e
      rw [gI_1]
      unfold xset
      split
      · exact hc hc'
      · exact h.2.1 _ _ hc'
    · rw [gI_n e]; exact h.2.1 _ _ hc'
theorem good_gB {S : GS} {c k : Nat} {x : Bool} (h : Good S) : Good (gB S c k x) := h
theorem good_gR {S : GS} {c k x : Nat} (h : Good S) (hx : x < 495) : Good (gR S c k x) := by
  refine ⟨h.1, h.2.1, fun c' k' => ?_⟩
  by_cases e : c' = c
  · subst e
    rw [gR_1]
    unfold xset
    split
    · exact hx
    · exact h.2.2 _ _
  · rw [gR_n e]; exact h.2.2 _ _
theorem gI_a {S : GS} {c k : Nat} {x : Int} : (gI S c k x).1 c k = x := by rw [gI_1, xset_s]
theorem gI_k {S : GS} {c k k' : Nat} {x : Int} (h : k' ≠ k) : (gI S c k x).1 c k' = S.1 c k' := by rw [gI_1, xset_n h]
theorem gI_c {S : GS} {c c' k k' : Nat} {x : Int} (h : c' ≠ c) : (gI S c k x).1 c' k' = S.1 c' k' := by rw [gI_n h]
theorem gB_i {S : GS} {c k : Nat} {x : Bool} : (gB S c k x).1 = S.1 := rfl
theorem gB_r {S : GS} {c k : Nat} {x : Bool} : (gB S c k x).2.2 = S.2.2 := rfl
theorem gR_i {S : GS} {c k x : Nat} : (gR S c k x).1 = S.1 := rfl
theorem gR_b {S : GS} {c k x : Nat} : (gR S c k x).2.1 = S.2.1 := rfl
theorem gB_a {S : GS} {c k : Nat} {x : Bool} : (gB S c k x).2.1 c k = x := by rw [gB_1, xset_s]
theorem gB_k {S : GS} {c k k' : Nat} {x : Bool} (h : k' ≠ k) : (gB S c k x).2.1 c k' = S.2.1 c k' := by rw [gB_1, xset_n h]
theorem gB_c {S : GS} {c c' k k' : Nat} {x : Bool} (h : c' ≠ c) : (gB S c k x).2.1 c' k' = S.2.1 c' k' := by rw [gB_n h]
theorem gR_a {S : GS} {c k x : Nat} : (gR S c k x).2.2 c k = x := by rw [gR_1, xset_s]
theorem gR_k {S : GS} {c k k' x : Nat} (h : k' ≠ k) : (gR S c k x).2.2 c k' = S.2.2 c k' := by rw [gR_1, xset_n h]
theorem gR_c {S : GS} {c c' k k' x : Nat} (h : c' ≠ c) : (gR S c k x).2.2 c' k' = S.2.2 c' k' := by rw [gR_n h]
theorem gIs_c {S : GS} {c c' k' : Nat} {g : Nat → Int} (h : c' ≠ c) : (gIs S c g).1 c' k' = S.1 c' k' := by rw [gIs_n h]
theorem gIs_a {S : GS} {c k' : Nat} {g : Nat → Int} : (gIs S c g).1 c k' = g k' := by rw [gIs_1]
theorem gIs_b {S : GS} {c : Nat} {g : Nat → Int} : (gIs S c g).2 = S.2 := rfl
theorem gI_b {S : GS} {c k : Nat} {x : Int} : (gI S c k x).2 = S.2 := rfl
/-- nothing outside M has changed -/
def Fr (M : Nat → Prop) (S S1 : GS) : Prop := ∀ c, ¬ M c → S1.1 c = S.1 c ∧ S1.2.1 c = S.2.1 c ∧ S1.2.2 c = S.2.2 c
theorem fr_rf {M : Nat → Prop} {S : GS} : Fr M S S := fun _ _ => ⟨rfl, rfl, rfl⟩
theorem fr_tr {M : Nat → Prop} {S S1 S2 : GS} (h : Fr M S S1) (g : Fr M S1 S2) : Fr M S S2 := fun c hc => ⟨(g c hc).1.trans (h c hc).1, (g c hc).2.1.trans (h c hc).2.1, (g c hc).2.2.trans (h c hc).2.2⟩
theorem fr_mono {M M1 : Nat → Prop} {S S1 : GS} (h : Fr M S S1) (hm : ∀ c, M c → M1 c) : Fr M1 S S1 := fun c hc => h c (fun q => hc (hm c q))
theorem fr_gI {M : Nat → Prop} {S : GS} {c k : Nat} {x : Int} (h : M c) : Fr M S (gI S c k x) := fun c' hc => ⟨gI_n (fun e => hc (e ▸ h)), rfl, rfl⟩
theorem fr_gB {M : Nat → Prop} {S : GS} {c k : Nat} {x : Bool} (h : M c) : Fr M S (gB S c k x) := fun c' hc => ⟨rfl, gB_n (fun e => hc (e ▸ h)), rfl⟩
theorem fr_gR {M : Nat → Prop} {S : GS} {c k x : Nat} (h : M c) : Fr M S (gR S c k x) := fun c' hc => ⟨rfl, rfl, gR_n (fun e => hc (e ▸ h))⟩
theorem fr_gIs {M : Nat → Prop} {S : GS} {c : Nat} {g : Nat → Int} (h : M c) : Fr M S (gIs S c g) := fun c' hc => ⟨gIs_n (fun e => hc (e ▸ h)), rfl, rfl⟩
