/-! the way back: an ORDER comes ahead of those that were told -/
def vL (U : List ND) (v : Int) : List (List ND) := if v = -1 then [] else [sg U v.toNat]
theorem ordP_len {op : Nat} {p : List Int} {v : List (List ND)} (h : ∀ t ∈ v, 1 ≤ t.length) : (ordP op p v).length = 3 + v.flatten.length := by
  unfold ordP
  rw [gp_len]
  have : ∀ v : List (List ND), (∀ t ∈ v, 1 ≤ t.length) → (v.map (fun t => kyT t (sx 24))).flatten.length = v.flatten.length := by
    intro v
    induction v with
    | nil => intro _; rfl
    | cons t v ih =>
      intro h
      rw [List.map_cons, List.flatten_cons, List.flatten_cons, List.length_append, List.length_append, ih (fun u hu => h u (List.mem_cons_of_mem _ hu)), ky_len (h t List.mem_cons_self)]
  rw [List.flatten_append, List.length_append, this v h]
  show 2 + _ + 1 = _
  omega
theorem ordP_tr {op : Nat} {p : List Int} {v : List (List ND)} (h : ∀ t ∈ v, TR t ∧ PZL t) : TR (ordP op p v) ∧ PZL (ordP op p v) := by
  unfold ordP
  have hE : ∀ t ∈ [[((3 : Int), 1, (0 : Int), sx op, sx 22)], [((3 : Int), 1, (0 : Int), p, sx 23)]] ++ v.map (fun t => kyT t (sx 24)), TR t ∧ PZL t := by
    intro t ht
    rcases List.mem_append.mp ht with w | w
    · simp only [List.mem_cons, List.not_mem_nil, or_false] at w
      rcases w with w | w <;> rw [w] <;> exact ⟨tr_leaf rfl, pzl_one rfl⟩
    · obtain ⟨u, hu, rfl⟩ := List.mem_map.mp w
      exact ⟨tr_ky (h u hu).1, pzl_ky (h u hu).1.2.1 (h u hu).2⟩
  have e : 2 + v.length = ([[((3 : Int), 1, (0 : Int), sx op, sx 22)], [((3 : Int), 1, (0 : Int), p, sx 23)]] ++ v.map (fun t => kyT t (sx 24))).length := by simp; omega
  rw [e]
  exact ⟨tr_gp (show (4 : Int) ≤ 5 by decide) (fun t ht => (hE t ht).1), pzl_gp (fun t ht => (hE t ht).2)⟩
def recS (bk : Option (List (List ND))) (op : Nat) (p : List Int) (v : List (List ND)) : Option (List (List ND)) := match bk with
  | none => none
  | some Os => if p.length ≤ 40 ∧ Os.flatten.length + 1 + (3 + v.flatten.length) ≤ 100 then some (ordP op p v :: Os) else none
def BkS (Os : List (List ND)) (fl : Bool) (S : GS) : Prop := TO 384 (gpN (ndK 4) Os Os.length, fl) S ∧ ∀ t ∈ Os, TR t ∧ PZL t
def BkR (bk : Option (List (List ND))) (S : GS) : Prop := match bk with
  | none => ∃ Os, BkS Os true S
  | some Os => BkS Os false S
theorem bk_fr {bk : Option (List (List ND))} {S S1 : GS} {M : Nat → Prop} (h : BkR bk S) (hf : Fr M S S1) (hM : ∀ k, 384 ≤ k → k < 392 → ¬ M k) : BkR bk S1 := by
  cases bk with
  | none => obtain ⟨Os, h1, h2⟩ := h; exact ⟨Os, to_fr h1 hf hM, h2⟩
  | some Os => exact ⟨to_fr h.1 hf hM, h.2⟩
section REC
variable {S S0 : GS} {c2 d : Nat} {p : List Int} {U : List ND}
theorem gT376 : gT 376 := by decide
theorem gT384 : gT 384 := by decide
theorem gT360 : gT 360 := by decide
theorem gT368 : gT 368 := by decide
theorem gSh454 : gSh 454 := by decide
theorem gSh452 : gSh 452 := by decide
abbrev recM : Nat → Prop := fun k => trM 376 k ∨ trM 384 k
theorem nz_gp0 {x : ND} {E : List (List ND)} {m : Nat} : nz (gpN x E m) 0 = 1 + (E.take m).flatten.length := rfl
theorem ordW_shape {op : Nat} {p : List Int} {U : List ND} {ou : Bool} {v : Int} : (1 ≤ (ordW ([], false) op p U ou v).1.length ∧ nz (ordW ([], false) op p U ou v).1 0 = (ordW ([], false) op p U ou v).1.length) := by
  have lN : ∀ (W : TW) (k : Int), W.1.length ≤ (aNd W k).1.length := fun W k => by
    unfold aNd
    split
    · simp
    · exact Nat.le_refl _
  have lS : ∀ (l : List Int) (W : TW) (i : Int), (aSgs W i l).1.length = W.1.length := by
    intro l
    induction l with
    | nil => intro W i; rfl
    | cons a l ih =>
      intro W i
      show (aSgs (aSg W i a) i l).1.length = _
      rw [ih]
      unfold aSg
      split <;> simp
  have lK : ∀ (l : List Int) (W : TW) (i : Int), (aKss W i l).1.length = W.1.length := by
    intro l
    induction l with
    | nil => intro W i; rfl
    | cons a l ih =>
      intro W i
      show (aKss (aKs W i a) i l).1.length = _
      rw [ih]
      unfold aKs
      split <;> simp
  have lT : ∀ (W : TW) (i : Int) (l : List Int), (stK W i l).1.length = W.1.length := fun W i l => by
    show (aKss (cKy W i) i l).1.length = _
    rw [lK, cKy_2.2]
  have lA : ∀ (W : TW) (U : List ND) (ou : Bool) (v : Int), W.1.length ≤ (apW W U ou v).1.length := fun W U ou v => by
    unfold apW
    split
    · simp
    · exact Nat.le_refl _
  have e0 : aNd ([], false) 5 = ([ndK 5], false) := rfl
  have fin : ∀ W : TW, 1 ≤ W.1.length → (1 ≤ (clo W 0).1.length ∧ nz (clo W 0).1 0 = (clo W 0).1.length) := by
    intro W h
    unfold clo
    rw [if_pos ⟨Int.le_refl _, by omega⟩]
    refine ⟨by simpa using h, ?_⟩
    show nz (W.1.set (0 : Int).toNat _) 0 = (W.1.set _ _).length
    unfold nz
    rw [show (0 : Int).toNat = 0 from rfl, getD_set_s (by omega), List.length_set]
    rfl
  have eA : addA ([] : List ND) = 0 := rfl
  unfold ordW
  rw [e0]
  split
  · refine fin _ ?_
    rw [lS, lT]
    have := lN (aSgs (stK (aNd ([ndK 5], false) 3) (addA ([ndK 5], false).1) (sx 22)) (addA ([ndK 5], false).1) (sx op)) 3
    rw [lS, lT] at this
    have := lN ([ndK 5], false) 3
    simp at this
    omega
  · refine fin _ ?_
    rw [lT]
    have h1 := lA (aSgs (stK (aNd (aSgs (stK (aNd ([ndK 5], false) 3) (addA ([ndK 5], false).1) (sx 22)) (addA ([ndK 5], false).1) (sx op)) 3) (addA (aSgs (stK (aNd ([ndK 5], false) 3) (addA ([ndK 5], false).1) (sx 22)) (addA ([ndK 5], false).1) (sx op)).1) (sx 23)) (addA (aSgs (stK (aNd ([ndK 5], false) 3) (addA ([ndK 5], false).1) (sx 22)) (addA ([ndK 5], false).1) (sx op)).1) p) U ou v
    rw [lS, lT] at h1
    have := lN (aSgs (stK (aNd ([ndK 5], false) 3) (addA ([ndK 5], false).1) (sx 22)) (addA ([ndK 5], false).1) (sx op)) 3
    rw [lS, lT] at this
    have := lN ([ndK 5], false) 3
    simp at this
    omega
theorem ed_record {op : Nat} {v : Int} {bk : Option (List (List ND))} (hop : 21 ≤ op ∧ op ≤ 30) (hc2 : gT c2) (hn1 : c2 ≠ 376) (hn2 : c2 ≠ 384) (hd : 9 ≤ d) (hu : TO c2 (U, false) S) (hU : WF U) (hin : v = -1 ∨ (0 ≤ v ∧ v < (U.length : Int))) (hp : SV S 454 p) (hp2 : ∀ x ∈ p, x < 256) (hb : BkR bk S) (hG : Good S) : Ev (fun n => f_X1_record n d 0 S [((op : Nat) : Int), ((c2 : Nat) : Int), v]) (fun _ S1 => BkR (recS bk op p (vL U v)) S1 ∧ Fr recM S S1 ∧ Good S1) := by
  have hz := pz_l (nr_pzl hu.1.2.2.2)
  have lU := tv_l hu.1
  have lU' : U.length ≤ 100 := lU
  have hin' : v = -1 ∨ (0 ≤ v ∧ v < (U.length : Int) ∧ v + szI U v ≤ U.length) := by
    rcases hin with z | z
    · exact Or.inl z
    · right
      have w := hU.1 v.toNat (by omega)
      have : szI U v = (nz U v.toNat : Int) := by unfold szI; rw [if_pos z]
      omega
  refine ev_up (fun n => e_X1_record_0) ?_
  unfold b_X1_record_0
  refine ev_gg (by omega) ?_
  refine ev_gc (ty_clear gT376 hG) (fun _ S1 q1 => ?_)
  have hu1 : TO c2 (U, false) S1 := to_fr hu q1.2.2.1 (fun k a b => by unfold trM; omega)
  have hp1 := sv_ty gT376 gSh454 hp q1
  have ad := or_add (d := d - 1) (op := op) (v := v) gT376 hc2 hn1 gSh454 (by omega) (by omega) hu1 hin' hp1 hp2 (ty_to (to_ty q1) q1.2.2.2)
  refine ev_gc ad (fun _ S2 q2 => ?_)
  have q12 : TY 376 S _ S2 := ty_since q1 q2
  have shp := ordW_shape (op := op) (p := p) (U := U) (ou := false) (v := v)
  generalize hO : ordW ([], false) op p U false v = O at *
  -- the tree of the way back
  have main : ∀ (Os : List (List ND)) (fl : Bool), BkS Os fl S → Ev (fun n => gc (f_X10_insert n (d - 1) 0 S2 [((384 : Nat) : Int), 0, 1, ((376 : Nat) : Int), 0]) fun _ S_9 => some (0, S_9)) (fun _ S1 => ((O.2 = false ∧ (gpN (ndK 4) Os Os.length).length + nz O.1 0 ≤ 100 ∧ TO 384 (spl (gpN (ndK 4) Os Os.length) 0 1 0 (seg O.1 0 (nz O.1 0)), fl) S1) ∨ (¬ (O.2 = false ∧ (gpN (ndK 4) Os Os.length).length + nz O.1 0 ≤ 100) ∧ TO 384 (gpN (ndK 4) Os Os.length, true) S1)) ∧ Fr recM S S1 ∧ Good S1) := by
    intro Os fl hB
    have hB2 : TO 384 (gpN (ndK 4) Os Os.length, fl) S2 := to_fr hB.1 q12.2.2.1 (fun k a b => by unfold trM; omega)
    have ins := ty_insert (d := d - 1) (S0 := S2) (c := 384) (c2 := 376) (o := 0) (a := 1) (j := 0) (U := O.1) (ob := O.2) (W := (gpN (ndK 4) Os Os.length, fl)) gT384 gT376 (by decide) (by omega) q12.1 q12.2.1 (by omega) (by omega) (by decide) (by show 1 ≤ (gpN (ndK 4) Os Os.length).length; rw [gp_len]; omega) (fun q h1 h2 => by
      have : q = 0 := by omega
      subst this
      show 0 + nz (gpN (ndK 4) Os Os.length) 0 ≤ (gpN (ndK 4) Os Os.length).length
      rw [nz_gp0, List.take_length, gp_len]
      omega) (ty_to hB2 q12.2.2.2)
    refine ev_gc ins (fun _ S3 q3 => ?_)
    by_cases c : O.2 = false ∧ (gpN (ndK 4) Os Os.length).length + nz O.1 0 ≤ 100
    · rw [if_pos c] at q3
      exact ev_ret ⟨Or.inl ⟨c.1, c.2, to_ty q3⟩, fr_tr (fr_mono q12.2.2.1 (fun _ z => Or.inl z)) (fr_mono q3.2.2.1 (fun _ z => Or.inr z)), q3.2.2.2⟩
    · rw [if_neg c] at q3
      exact ev_ret ⟨Or.inr ⟨c, to_ty q3⟩, fr_tr (fr_mono q12.2.2.1 (fun _ z => Or.inl z)) (fr_mono q3.2.2.1 (fun _ z => Or.inr z)), q3.2.2.2⟩
  -- what an ORDER that fits is
  have fits : O.2 = false → O.1 = ordP op p (vL U v) ∧ p.length ≤ 40 ∧ O.1.length = 3 + (vL U v).flatten.length ∧ (TR O.1 ∧ PZL O.1) := by
    intro h
    rw [← hO] at h
    have no := ordW_no hop h
    have hv : (v = -1 ∧ ([] : List ND).length + 3 ≤ 100) ∨ (0 ≤ v ∧ v < (U.length : Int) ∧ PZ U ∧ WF U ∧ ([] : List ND).length + 3 + nz U v.toNat ≤ 100) := by
      rcases no.2.2 with z | z
      · exact Or.inl z
      · right
        rcases hin with y | y
        · exact absurd y z.1
        · refine ⟨y.1, y.2, hz, hU, ?_⟩
          have e : szI U v = (nz U v.toNat : Int) := by unfold szI; rw [if_pos y]
          have := z.2.2.2
          rw [e] at this
          simp only [List.length_nil] at this ⊢
          omega
    have ok := ordW_ok hop no.2.1 hv
    rw [hO, List.nil_append] at ok
    have eO : O.1 = ordP op p (vL U v) := by rw [ok]; rfl
    have tv : ∀ t ∈ vL U v, TR t ∧ PZL t := by
      intro t ht
      unfold vL at ht
      split at ht
      · cases ht
      · simp only [List.mem_cons, List.not_mem_nil, or_false] at ht
        rw [ht]
        rcases hin with y | y
        · rename_i c; exact absurd y c
        · exact tr_sg hU (nr_pzl hu.1.2.2.2) (by omega)
    rw [eO]
    exact ⟨rfl, no.2.1, ordP_len (fun t ht => (tv t ht).1.2.1), ordP_tr tv⟩
  -- an ORDER does not fit only for its length
  have nofit : O.2 ≠ false → ¬ (p.length ≤ 40 ∧ 3 + (vL U v).flatten.length ≤ 100) := by
    intro h c
    apply h
    have hv : (v = -1 ∧ ([] : List ND).length + 3 ≤ 100) ∨ (0 ≤ v ∧ v < (U.length : Int) ∧ PZ U ∧ WF U ∧ ([] : List ND).length + 3 + nz U v.toNat ≤ 100) := by
      rcases hin with y | y
      · exact Or.inl ⟨y, by decide⟩
      · right
        refine ⟨y.1, y.2, hz, hU, ?_⟩
        have c2 := c.2
        unfold vL at c2
        rw [if_neg (by omega)] at c2
        simp only [List.flatten_cons, List.flatten_nil, List.append_nil] at c2
        rw [sg_len hU (by omega)] at c2
        simp only [List.length_nil]
        omega
    have ok := ordW_ok hop c.1 hv
    rw [hO] at ok
    rw [ok]
  have seg0 : seg O.1 0 (nz O.1 0) = O.1 := by
    rw [shp.2]
    unfold seg
    rw [List.drop_zero, List.take_length]
  have splE : ∀ Os : List (List ND), (∀ t ∈ Os, TR t ∧ PZL t) → (TR O.1 ∧ PZL O.1) → spl (gpN (ndK 4) Os Os.length) 0 1 0 O.1 = gpN (ndK 4) (O.1 :: Os) (O.1 :: Os).length := by
    intro Os hOs hOt
    have tg : TR (gpN (ndK 4) Os Os.length) ∧ PZL (gpN (ndK 4) Os Os.length) := ⟨tr_gp (by decide) (fun t ht => (hOs t ht).1), pzl_gp (fun t ht => (hOs t ht).2)⟩
    have su := spl_upd (V := gpN (ndK 4) Os Os.length) (o := 0) (a := 1) (g := 0) (E1 := []) (M := []) (E2 := Os) (N := [O.1]) tg (by rw [gp_len]; omega) (by show (4 : Int) ≤ 4; decide) (by rw [sg_self tg.1, kd_gp hOs]; rfl) rfl rfl (fun t ht => by simp only [List.mem_cons, List.not_mem_nil, or_false] at ht; rw [ht]; exact hOt)
    simp only [List.flatten_cons, List.flatten_nil, List.append_nil] at su
    rw [su, updF_0]
    rfl
  cases bk with
  | none =>
    obtain ⟨Os, hB⟩ := hb
    refine ev_mono (main Os true hB) (fun _ S1 q => ⟨?_, q.2.1, q.2.2⟩)
    rcases q.1 with ⟨a1, a2, a3⟩ | ⟨a1, a2⟩
    · have f := fits a1
      rw [seg0, splE Os hB.2 f.2.2.2] at a3
      exact ⟨O.1 :: Os, a3, fun t ht => by rcases List.mem_cons.mp ht with z | z; exact z ▸ f.2.2.2; exact hB.2 t z⟩
    · exact ⟨Os, a2, hB.2⟩
  | some Os =>
    refine ev_mono (main Os false hb) (fun _ S1 q => ⟨?_, q.2.1, q.2.2⟩)
    show BkR (if p.length ≤ 40 ∧ Os.flatten.length + 1 + (3 + (vL U v).flatten.length) ≤ 100 then some (ordP op p (vL U v) :: Os) else none) S1
    rcases q.1 with ⟨a1, a2, a3⟩ | ⟨a1, a2⟩
    · have f := fits a1
      rw [shp.2, gp_len, f.2.2.1] at a2
      rw [if_pos ⟨f.2.1, a2⟩]
      rw [seg0, splE Os hb.2 f.2.2.2] at a3
      rw [← f.1]
      exact ⟨a3, fun t ht => by rcases List.mem_cons.mp ht with z | z; exact z ▸ f.2.2.2; exact hb.2 t z⟩
    · rw [if_neg (fun c => ?_)]
      · exact ⟨Os, a2, hb.2⟩
      · by_cases c1 : O.2 = false
        · have f := fits c1
          refine a1 ⟨c1, ?_⟩
          rw [shp.2, gp_len, f.2.2.1]
          exact c.2
        · exact nofit c1 ⟨c.1, by omega⟩
end REC
