/-! JOINING: what is joined -/
theorem jnF_s {O A B : List ND} {f : Nat} {p : List Int} {o a b : Int} : jnF O A B (f + 1) p o a b = if alk A a B b ∨ alk B b O o then (acT A a, []) else if alk A a O o then (acT B b, [])
    else if kdI A a = 5 ∧ kdI B b = 5 ∧ (o = -1 ∨ kdI O o = 5) then
      ([gpN (5, 1, 0, [], kI A a) ((j1F (jnF O A B f) O A B a b p (kidI O o)).1 ++ (j2F (jnF O A B f) O A B o b p (kidI A a)).1 ++ j3F O A B o a (kidI B b)) ((j1F (jnF O A B f) O A B a b p (kidI O o)).1 ++ (j2F (jnF O A B f) O A B o b p (kidI A a)).1 ++ j3F O A B o a (kidI B b)).length], (j1F (jnF O A B f) O A B a b p (kidI O o)).2 ++ (j2F (jnF O A B f) O A B o b p (kidI A a)).2)
    else ([], [p]) := rfl
theorem kd_5 {T : List ND} {a k : Int} (h : kdI T a = k) (hk : k ≠ -1) : 0 ≤ a ∧ a < (T.length : Int) ∧ nk T a.toNat = k := by
  unfold kdI at h
  by_cases c : 0 ≤ a ∧ a < (T.length : Int)
  · rw [if_pos c] at h
    exact ⟨c.1, c.2, h⟩
  · rw [if_neg c] at h
    exact absurd h.symm hk
section JQ
variable {O A B : List ND}
theorem j1_len {g : List Int → Int → Int → Int → JR} {a b : Int} (hg : ∀ p o' a' b', nOK O o' → nOK A a' → nOK B b' → (g p o' a' b').2.length ≤ (szI A a').toNat + (szI B b').toNat) (hA : WF A) (hB : WF B) (zA : PZ A) (zB : PZ B) (p : List Int) : ∀ (K : List Nat), (∀ c ∈ K, c < O.length) → (j1F g O A B a b p K).2.length ≤ s1F O A B a b K
  | [], _ => Nat.zero_le _
  | c :: K, h => by
    have ih := j1_len (a := a) (b := b) hg hA hB zA zB p K (fun d hd => h d (List.mem_cons_of_mem _ hd))
    have hc := h c List.mem_cons_self
    have := hg (p ++ stp O c) (c : Int) (vLk A a (nq O c)) (vLk B b (nq O c)) (Or.inr (by omega)) (vLk_r hA zA _ _) (vLk_r hB zB _ _)
    show (_ ++ _ : List (List Int)).length ≤ (szI A (vLk A a (nq O c))).toNat + (szI B (vLk B b (nq O c))).toNat + s1F O A B a b K
    rw [List.length_append]
    omega
theorem j2_len {g : List Int → Int → Int → Int → JR} {o b : Int} (hg : ∀ p o' a' b', nOK O o' → nOK A a' → nOK B b' → (g p o' a' b').2.length ≤ (szI A a').toNat + (szI B b').toNat) (hB : WF B) (zB : PZ B) (p : List Int) : ∀ (K : List Nat), (∀ c ∈ K, c < A.length) → (j2F g O A B o b p K).2.length ≤ s2F O A B o b K
  | [], _ => Nat.zero_le _
  | c :: K, h => by
    have ih := j2_len (o := o) (b := b) hg hB zB p K (fun d hd => h d (List.mem_cons_of_mem _ hd))
    have hc := h c List.mem_cons_self
    have := hg (p ++ stp A c) (-1) (c : Int) (vLk B b (nq A c)) (Or.inl rfl) (Or.inr (by omega)) (vLk_r hB zB _ _)
    rw [szI_c hc] at this
    unfold j2F s2F
    by_cases e : vLk O o (nq A c) = -1
    · rw [if_pos e, if_pos e]
      show (_ ++ _ : List (List Int)).length ≤ _
      rw [List.length_append]
      omega
    · rw [if_neg e, if_neg e]
      omega
theorem kidI_in {V : List ND} (hw : WF V) (hz : PZ V) {i : Int} (h : mpO V i) : ∀ c ∈ kidI V i, c < V.length := by
  intro c hc
  unfold kidI at hc
  rcases h with z | z
  · rw [if_pos z] at hc; cases hc
  · rw [if_neg (by omega)] at hc
    exact kids_in hw hz (by omega) hc
theorem jq_len (hO : WF O) (hA : WF A) (hB : WF B) (zO : PZ O) (zA : PZ A) (zB : PZ B) (uO : KUV O) (uA : KUV A) : ∀ (f : Nat) (p : List Int) (o a b : Int), nOK O o → nOK A a → nOK B b → (jnF O A B f p o a b).2.length ≤ (szI A a).toNat + (szI B b).toNat := by
  intro f
  have one : ∀ (p : List Int) (a b : Int), nOK A a → nOK B b → ¬ alk A a B b → ([p] : List (List Int)).length ≤ (szI A a).toNat + (szI B b).toNat := by
    intro p a b ha hb hn
    show 1 ≤ _
    rcases ha with z | z
    · rcases hb with y | y
      · exact absurd ((alk_n (Or.inl z)).mpr (by omega)) hn
      · have := zB b.toNat
        have e : szI B b = (nz B b.toNat : Int) := if_pos y
        omega
    · have := zA a.toNat
      have e : szI A a = (nz A a.toNat : Int) := if_pos z
      omega
  induction f with
  | zero =>
    intro p o a b ho ha hb
    unfold jnF
    by_cases c1 : alk A a B b ∨ alk B b O o
    · rw [if_pos c1]; exact Nat.zero_le _
    · rw [if_neg c1]
      by_cases c2 : alk A a O o
      · rw [if_pos c2]; exact Nat.zero_le _
      · rw [if_neg c2]
        exact one p a b ha hb (fun w => c1 (Or.inl w))
  | succ f ih =>
    intro p o a b ho ha hb
    rw [jnF_s]
    by_cases c1 : alk A a B b ∨ alk B b O o
    · rw [if_pos c1]; exact Nat.zero_le _
    · rw [if_neg c1]
      by_cases c2 : alk A a O o
      · rw [if_pos c2]; exact Nat.zero_le _
      · rw [if_neg c2]
        by_cases c3 : kdI A a = 5 ∧ kdI B b = 5 ∧ (o = -1 ∨ kdI O o = 5)
        · rw [if_pos c3]
          have a5 := kd_5 c3.1 (by decide)
          have b5 := kd_5 c3.2.1 (by decide)
          have mo : mpO O o := c3.2.2.imp id (fun z => kd_5 z (by decide))
          have l1 := j1_len (a := a) (b := b) ih hA hB zA zB p (kidI O o) (kidI_in hO zO mo)
          have l2 := j2_len (o := o) (b := b) ih hB zB p (kidI A a) (kidI_in hA zA (Or.inr a5))
          have ia : a = ((a.toNat : Nat) : Int) := by omega
          have ib : b = ((b.toNat : Nat) : Int) := by omega
          have al := js_all (a := a.toNat) (b := b.toNat) hO hA hB zA zB uO uA mo ⟨by omega, a5.2.2⟩ ⟨by omega, b5.2.2⟩
          rw [← ia, ← ib] at al
          have ek : kidI A a = kids A a.toNat := if_neg (by omega)
          rw [ek] at l2
          have ea : szI A a = (nz A a.toNat : Int) := if_pos ⟨a5.1, a5.2.1⟩
          have eb : szI B b = (nz B b.toNat : Int) := if_pos ⟨b5.1, b5.2.1⟩
          show (_ ++ _ : List (List Int)).length ≤ _
          rw [List.length_append, ek]
          omega
        · rw [if_neg c3]
          exact one p a b ha hb (fun w => c1 (Or.inl w))
end JQ
abbrev joM : Nat → Prop := fun k => trM 392 k ∨ (456 ≤ k ∧ k ≤ 459) ∨ k = 485 ∨ k = 486
/-- what joining rests on -/
def JnS (cO cA cB : Nat) (O A B : List ND) (Qo : List (List Int)) (p : List Int) (r : Option (List ND)) (Qn : List (List Int)) (S0 S : GS) : Prop := (S.2.2 485 4 = cO ∧ S.2.2 485 5 = cA ∧ S.2.2 485 6 = cB) ∧ (TO cO (O, false) S ∧ TO cA (A, false) S ∧ TO cB (B, false) S) ∧ (SV S 456 p ∧ ∀ x ∈ p, 0 ≤ x ∧ x < 256) ∧ MdR r S ∧ QnS Qo Qn S ∧ Fr joM S0 S ∧ Good S
section JN
variable {S S0 : GS} {cO cA cB d : Nat} {O A B : List ND} {Qo Qn : List (List Int)} {p : List Int} {r : Option (List ND)}
abbrev dok (c : Nat) : Prop := gT c ∧ c < 320
theorem js_sx {S1 : GS} {p1 : List Int} (h3 : dok cO ∧ dok cA ∧ dok cB) (h : JnS cO cA cB O A B Qo p r Qn S0 S) (hs : SX 456 S p1 S1) (hp : ∀ x ∈ p1, 0 ≤ x ∧ x < 256) : JnS cO cA cB O A B Qo p1 r Qn S0 S1 := by
  obtain ⟨⟨e1, e2, e3⟩, ⟨t1, t2, t3⟩, hp0, hr, hq, hf, hG⟩ := h
  have f := hs.2.1
  have n := f 485 (by unfold shM; omega)
  exact ⟨⟨by rw [n.2.2]; exact e1, by rw [n.2.2]; exact e2, by rw [n.2.2]; exact e3⟩, ⟨to_fr t1 f (fun k a b => by unfold shM; omega), to_fr t2 f (fun k a b => by unfold shM; omega), to_fr t3 f (fun k a b => by unfold shM; omega)⟩, ⟨hs.1, hp⟩, md_fr hr f (fun k a b => by unfold shM; omega), qn_fr hq f (by unfold shM; omega) (by unfold shM; omega) (by unfold shM; omega) (by unfold shM; omega), fr_tr hf (fr_mono f (fun k z => by unfold shM at z; unfold joM; omega)), hs.2.2⟩
theorem js_md {S1 : GS} {r1 : Option (List ND)} (h3 : dok cO ∧ dok cA ∧ dok cB) (h : JnS cO cA cB O A B Qo p r Qn S0 S) (hr1 : MdR r1 S1) (f : Fr (trM 392) S S1) (hG1 : Good S1) : JnS cO cA cB O A B Qo p r1 Qn S0 S1 := by
  obtain ⟨⟨e1, e2, e3⟩, ⟨t1, t2, t3⟩, hp0, hr, hq, hf, hG⟩ := h
  have n := f 485 (by unfold trM; omega)
  exact ⟨⟨by rw [n.2.2]; exact e1, by rw [n.2.2]; exact e2, by rw [n.2.2]; exact e3⟩, ⟨to_fr t1 f (fun k a b => by unfold trM; omega), to_fr t2 f (fun k a b => by unfold trM; omega), to_fr t3 f (fun k a b => by unfold trM; omega)⟩, ⟨sv_fr hp0.1 f (by unfold trM; omega) (by unfold trM; omega), hp0.2⟩, hr1, qn_fr hq f (by unfold trM; omega) (by unfold trM; omega) (by unfold trM; omega) (by unfold trM; omega), fr_tr hf (fr_mono f (fun k z => Or.inl z)), hG1⟩
theorem js_qu {S1 : GS} {Q1 : List (List Int)} (h3 : dok cO ∧ dok cA ∧ dok cB) (h : JnS cO cA cB O A B Qo p r Qn S0 S) (hq1 : QnS Qo Q1 S1) (f : Fr quM S S1) (n : ∀ k, S1.2.2 485 k = S.2.2 485 k) (hG1 : Good S1) : JnS cO cA cB O A B Qo p r Q1 S0 S1 := by
  obtain ⟨⟨e1, e2, e3⟩, ⟨t1, t2, t3⟩, hp0, hr, hq, hf, hG⟩ := h
  exact ⟨⟨by rw [n]; exact e1, by rw [n]; exact e2, by rw [n]; exact e3⟩, ⟨to_fr t1 f (fun k a b => by unfold quM; omega), to_fr t2 f (fun k a b => by unfold quM; omega), to_fr t3 f (fun k a b => by unfold quM; omega)⟩, ⟨sv_fr hp0.1 f (by unfold quM; omega) (by unfold quM; omega), hp0.2⟩, md_fr hr f (fun k a b => by unfold quM; omega), hq1, fr_tr hf (fr_mono f (fun k z => by unfold quM at z; unfold joM; omega)), hG1⟩
/-- a QUARREL -/
theorem js_disp (h3 : dok cO ∧ dok cA ∧ dok cB) (hd : 5 ≤ d) (h : JnS cO cA cB O A B Qo p r Qn S0 S) (hp : p.length ≤ 300) (hl : Qn.length < 200) : Ev (fun n => f_X4_dispute n d 0 S []) (fun _ S1 => JnS cO cA cB O A B Qo p r (Qn ++ [p]) S0 S1) :=
  ev_mono (jn_disp hd h.2.2.1.1 ⟨hp, h.2.2.1.2⟩ h.2.2.2.2.1 hl h.2.2.2.2.2.2) (fun _ S1 q => js_qu h3 h q.1 q.2.1 q.2.2.1 q.2.2.2)
/-- a VALUE is taken over -/
theorem js_acc {cT : Nat} {T : List ND} {i : Int} (h3 : dok cO ∧ dok cA ∧ dok cB) (hd : 2 ≤ d) (hc : dok cT) (hT : TO cT (T, false) S) (wT : WF T) (hi : nOK T i) (h : JnS cO cA cB O A B Qo p r Qn S0 S) : Ev (fun n => f_X4_accept n d 0 S [((cT : Nat) : Int), i]) (fun _ S1 => JnS cO cA cB O A B Qo p (apM r (acT T i).flatten) Qn S0 S1) :=
  ev_mono (jn_accept hc.1 (by have := hc.2; omega) hd hT wT hi h.2.2.2.1 h.2.2.2.2.2.2) (fun _ S1 q => js_md h3 h q.1 q.2.1 q.2.2)
end JN
