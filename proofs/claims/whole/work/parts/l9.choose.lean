/-! THE REFERENCE: VALUES chosen, group by group -/
def NxT (F : Nat) (V : List ND) (g : Nat) (w last x : Int) : Prop := ∀ (S : GS) (d : Nat), 6 ≤ d → LK S F V → Rd (fun n => f_X12_nextChild n d 0 S [(F : Int), (g : Int), last, w]) x S
def ChT (F : Nat) (V : List ND) (g : Nat) (w : Int) : Int → List Nat → Prop
  | last, [] => NxT F V g w last (-1)
  | last, c :: L => NxT F V g w last (c : Int) ∧ ChT F V g w (c : Int) L
/-- the last one of like KEY -/
def laN (V : List ND) (c : Nat) : List Nat → Nat → Nat
  | [], x => x
  | k :: K, x => laN V c K (if nq V k = nq V c then k else x)
/-- the first ones of each KEY -/
def fiN (V : List ND) : List Nat → List Nat → List Nat
  | _, [] => []
  | P, k :: K => if P.any (fun p => decide (nq V p = nq V k)) = true then fiN V (P ++ [k]) K else k :: fiN V (P ++ [k]) K
def fsN (V : List ND) (w : Int) (g : Nat) : List Nat := if nk V g = 5 ∧ 2 ≤ w then fiN V [] (kids V g) else orV V g w
def emN (V : List ND) (w : Int) (g c : Nat) : Nat := if nk V g = 5 ∧ w = 3 then laN V c (kids V g) c else c
def chM (V : List ND) (w : Int) : Nat → Nat → List ND
  | 0, g => [wZ (V.getD g nd0) 0]
  | f + 1, g => wZ (V.getD g nd0) (fsN V w g).length :: ((fsN V w g).map (fun c => chM V w f (emN V w g c))).flatten
theorem set_mid {A B : List ND} {a b : ND} : (A ++ a :: B).set A.length b = A ++ b :: B := by
  rw [List.set_append_right _ _ (Nat.le_refl _), Nat.sub_self]
  rfl
theorem get_mid {A B : List ND} {a : ND} : (A ++ a :: B).getD A.length nd0 = a := by
  rw [List.getD_eq_getElem?_getD, List.getElem?_append_right (Nat.le_refl _), Nat.sub_self]
  rfl
abbrev chP (K top : Nat) : Nat → Nat → Prop := fun c j => doP K c j ∨ (c = 513 ∧ top ≤ j) ∨ (c = 514 ∧ top ≤ j) ∨ (c = 515 ∧ top ≤ j)
/-- of a group: what is chosen comes so, one after the other -/
def ChO (d F : Nat) (V : List ND) (w : Int) (g : Nat) : Prop := ChT F V g w (-1) (fsN V w g) ∧ (∀ c ∈ fsN V w g, c ∈ kids V g ∧ emN V w g c ∈ kids V g) ∧ ∀ c ∈ fsN V w g, w = 3 → nk V g = 5 → ∀ S, LK S F V → Rd (fun n => f_X12_lastLike n (d - 1) 0 S [(F : Int), (g : Int), (c : Int)]) (emN V w g c : Int) S
def SubT (d F K : Nat) (V : List ND) (w : Int) (f : Nat) : Prop := ∀ (c top : Nat) (S : GS) (A B : List ND) (x : ND) (j : Nat) (Q : Int → GS → Prop), c < V.length → (∀ r, dpS r (sg V c) ≤ (f : Int)) → 1 ≤ top → top + f ≤ 15 → LK S F V → MD S K (some (A ++ wZ x j :: B)) → S.1 514 (top - 1) = (A.length : Int) → j ≤ 100 → (A ++ wZ x j :: (B ++ chM V w f c)).length ≤ 100 → (∀ S1, MD S1 K (some (A ++ wZ x (j + 1) :: (B ++ chM V w f c))) → FC (chP K top) S S1 → Ev (fun n => f_X12_choose n d 49 S1 [(F : Int), (K : Int), w, (top : Int)]) Q) → Ev (fun n => f_X12_choose n d 154 S [(F : Int), (K : Int), w, (top : Int), (c : Int)]) Q
section CHO
variable {d F K : Nat} {V : List ND} {w : Int}
theorem ch_loop (hd : 8 ≤ d) (hF : F < 48) (hK : K < 48) (hne : F ≠ K) (hV : TR V ∧ PZL V) (hw : 0 ≤ w ∧ w ≤ 3) {f g top : Nat} (sub : SubT d F K V w f) (hg : g < V.length) (h4 : 4 ≤ nk V g) (hkn : kids V g ≠ []) (hdp : ∀ r, dpS r (sg V g) ≤ (f : Int) + 1) (htop : top + f ≤ 14) (hO : ChO d F V w g) {A : List ND} {z : ND} {Q : Int → GS → Prop} {R : List ND} {S : GS} (hL : LK S F V) (hR : R.length ≤ 100) (nx : ∀ S1, MD S1 K (some R) → FC (chP K top) S S1 → Ev (fun n => f_X12_choose n d 49 S1 [(F : Int), (K : Int), w, (top : Int)]) Q) : ∀ (L : List Nat) (last : Int) (S1 : GS) (B : List ND) (j : Nat), ChT F V g w last L → (∀ c ∈ L, c ∈ fsN V w g) → S1.1 513 top = (g : Int) → S1.1 514 top = (A.length : Int) → S1.1 515 top = last → MD S1 K (some (A ++ wZ z j :: B)) → FC (chP K top) S S1 → j + L.length ≤ 100 → A ++ wZ z (j + L.length) :: (B ++ (L.map (fun c => chM V w f (emN V w g c))).flatten) = R → Ev (fun n => f_X12_choose n d 49 S1 [(F : Int), (K : Int), w, ((top + 1 : Nat) : Int)]) Q := by
  have hz := pz_l hV.2
  have l1 := hL.2.1
  have kdg := kd_sg hV.2 hV.1.1 hg
  have rkg := rk_sg hg (hz g)
  have kl := kids_le hV.1.1 hz (g := g)
  have wg := hV.1.1.1 g hg
  have kn : 1 ≤ (kids V g).length := by
    cases e : kids V g with
    | nil => exact absurd e hkn
    | cons a b => rw [List.length_cons]; omega
  have nrg := hL.2.2.2 _ (nd_mem hg)
  have krg : 0 ≤ nk V g ∧ nk V g ≤ 5 := ⟨nrg.1, nrg.2.1⟩
  have lkS : ∀ S2, FC (chP K top) S S2 → LK S2 F V := fun S2 hf => lk_fr hL hf (fun j _ _ => by omega) (by omega)
  intro L
  induction L with
  | nil =>
    intro last S1 B j hC hsub h513 h514 h515 hM hf hj eR
    have hL1 := lkS S1 hf
    refine ev_up (fun n => e_X12_choose_49) ?_
    unfold b_X12_choose_49
    refine ev_gg (by first | omega | (constructor <;> omega)) ?_
    refine ev_ite (fun z => by omega) (fun _ => ?_)
    refine ev_gv ?_
    refine ev_gg (by first | omega | (constructor <;> omega)) ?_
    refine ev_gv ?_
    rw [show (((top + 1 : Nat) : Int) - 1).toNat = top by omega, h513]
    refine ev_gg (by first | omega | (constructor <;> omega)) ?_
    refine ev_gcr (q_manyL (d := d - 1) (K := F) (I := g) (by omega) rfl hF rfl hL1 hg) ?_
    refine ev_gg (by first | omega | (constructor <;> omega)) ?_
    refine ev_ite (fun _ => ?_) (fun z => by omega)
    refine ev_gv ?_
    refine ev_gg (by first | omega | (constructor <;> omega)) ?_
    refine ev_gv ?_
    rw [show (((top + 1 : Nat) : Int) - 1).toNat = top by omega, h515]
    refine ev_gcr (hC S1 (d - 1) (by omega) hL1) ?_
    refine ev_up (fun n => e_X12_choose_98) ?_
    unfold b_X12_choose_98
    refine ev_gg (by decide) ?_
    refine ev_ite (fun z => by omega) (fun _ => ?_)
    refine ev_gv ?_
    rw [show ((top + 1 : Nat) : Int) + (-1) = (top : Int) by omega]
    refine nx S1 ?_ hf
    rw [← eR]
    simp only [List.length_nil, Nat.add_zero, List.map_nil, List.flatten_nil, List.append_nil]
    exact hM
  | cons c L ih =>
    intro last S1 B j hC hsub h513 h514 h515 hM hf hj eR
    have hL1 := lkS S1 hf
    have hc := hsub c List.mem_cons_self
    obtain ⟨ck, ek⟩ := hO.2.1 c hc
    have c3 := kid_in3 hV.1.1 hz hg ck
    have e3 := kid_in3 hV.1.1 hz hg ek
    have dpe : ∀ r, dpS r (sg V (emN V w g c)) ≤ (f : Int) := dp_kd hdp (by rw [rkg]; exact h4) (by rw [kdg]; exact List.mem_map.mpr ⟨_, ek, rfl⟩)
    rw [List.length_cons] at hj
    rw [List.length_cons, List.map_cons, List.flatten_cons] at eR
    have lR := congrArg List.length eR
    simp only [List.length_append, List.length_cons] at lR
    have f2 : FC (chP K top) S1 (gI S1 515 top (c : Int)) := fc_gI (Or.inr (Or.inr (Or.inr ⟨rfl, by omega⟩)))
    have m2 : MD (gI S1 515 top (c : Int)) K (some (A ++ wZ z j :: B)) := mdr_fr hM (fc_gI (P := fun c j => c = 515) rfl) (fun j _ _ => by decide) (by decide) (by decide)
    have a3 : (gI S1 515 top (c : Int)).1 513 top = (g : Int) := by rw [gI_c (by decide)]; exact h513
    have a4 : (gI S1 515 top (c : Int)).1 514 top = (A.length : Int) := by rw [gI_c (by decide)]; exact h514
    have a5 : (gI S1 515 top (c : Int)).1 515 top = (c : Int) := gI_a
    have hL2 := lkS _ (fc_tr hf f2)
    have p154 : Ev (fun n => f_X12_choose n d 154 (gI S1 515 top (c : Int)) [(F : Int), (K : Int), w, ((top + 1 : Nat) : Int), (emN V w g c : Int)]) Q := by
      refine sub (emN V w g c) (top + 1) _ A B z j Q e3.2.1 dpe (by omega) (by omega) hL2 m2 (by rw [Nat.add_sub_cancel]; exact a4) (by omega) (by simp only [List.length_append, List.length_cons]; omega) (fun S3 m3 f3 => ?_)
      refine ih (c : Int) S3 _ (j + 1) hC.2 (fun y hy => hsub y (List.mem_cons_of_mem _ hy)) (by rw [fc_i f3 (by omega)]; exact a3) (by rw [fc_i f3 (by omega)]; exact a4) (by rw [fc_i f3 (by omega)]; exact a5) m3 (fc_tr (fc_tr hf f2) (fc_mono f3 (fun c j z => by omega))) (by omega) ?_
      rw [← eR, List.append_assoc, show j + 1 + L.length = j + (L.length + 1) by omega]
    refine ev_up (fun n => e_X12_choose_49) ?_
    unfold b_X12_choose_49
    refine ev_gg (by first | omega | (constructor <;> omega)) ?_
    refine ev_ite (fun z => by omega) (fun _ => ?_)
    refine ev_gv ?_
    refine ev_gg (by first | omega | (constructor <;> omega)) ?_
    refine ev_gv ?_
    rw [show (((top + 1 : Nat) : Int) - 1).toNat = top by omega, h513]
    refine ev_gg (by first | omega | (constructor <;> omega)) ?_
    refine ev_gcr (q_manyL (d := d - 1) (K := F) (I := g) (by omega) rfl hF rfl hL1 hg) ?_
    refine ev_gg (by first | omega | (constructor <;> omega)) ?_
    refine ev_ite (fun _ => ?_) (fun z => by omega)
    refine ev_gv ?_
    refine ev_gg (by first | omega | (constructor <;> omega)) ?_
    refine ev_gv ?_
    rw [show (((top + 1 : Nat) : Int) - 1).toNat = top by omega, h515]
    refine ev_gcr (hC.1 S1 (d - 1) (by omega) hL1) ?_
    refine ev_up (fun n => e_X12_choose_98) ?_
    unfold b_X12_choose_98
    refine ev_gg (by first | omega | (constructor <;> omega)) ?_
    refine ev_ite (fun _ => ?_) (fun z => by omega)
    refine ev_gv ?_
    refine ev_gg (by first | omega | (constructor <;> omega)) ?_
    refine ev_gv ?_
    rw [show (((top + 1 : Nat) : Int) - 1).toNat = top by omega]
    refine ev_gg (by first | omega | (constructor <;> omega)) ?_
    refine ev_ite (fun q => ?_) (fun q => ?_)
    · have em : emN V w g c = c := by unfold emN; rw [if_neg (fun y => q y.2)]
      rw [em] at p154
      exact p154
    · refine ev_gg (by first | omega | (constructor <;> omega)) ?_
      refine ev_gcr (q_kindL (d := d - 1) (K := F) (I := g) (by omega) rfl hF rfl hL2 hg) ?_
      refine ev_gg (by first | omega | (constructor <;> omega)) ?_
      refine ev_ite (fun q5 => ?_) (fun q5 => ?_)
      · have em : emN V w g c = c := by unfold emN; rw [if_neg (fun y => q5 y.1)]
        rw [em] at p154
        exact p154
      · refine ev_gcr (hO.2.2 c hc (by omega) (by omega) _ hL2) ?_
        exact p154
theorem ch_sub (hd : 8 ≤ d) (hF : F < 48) (hK : K < 48) (hne : F ≠ K) (hV : TR V ∧ PZL V) (hw : 0 ≤ w ∧ w ≤ 3) (hO : ∀ g, g < V.length → 4 ≤ nk V g → kids V g ≠ [] → ChO d F V w g) : ∀ f, SubT d F K V w f := by
  have hz := pz_l hV.2
  intro f
  induction f with
  | zero => ?_
  | succ f ih => ?_
  all_goals intro c top S A B x j Q hc hdp ht htf hL hM h514 hj hlen nx
  all_goals have l1 := hL.2.1
  all_goals have kl := kids_le hV.1.1 hz (g := c)
  all_goals have wc := hV.1.1.1 c hc
  all_goals have nr := hL.2.2.2 _ (nd_mem hc)
  all_goals have rkc := rk_sg hc (hz c)
  all_goals have lW := md_len hM
  all_goals have lW' := lW
  all_goals simp only [List.length_append, List.length_cons] at hlen lW'
  · have ckn : kids V c = [] := by
      by_cases q : 4 ≤ nk V c
      · have h1 := hdp 0
        unfold dpS at h1
        rw [rkc, if_pos q] at h1
        omega
      · have := hV.1.1.2.2 c hc (by omega)
        exact List.length_eq_zero_iff.mp (by omega)
    have eM : chM V w 0 c = [wZ (V.getD c nd0) 0] := rfl
    rw [eM] at nx hlen
    rw [List.length_singleton] at hlen
    refine ev_up (fun n => e_X12_choose_154) ?_
    unfold b_X12_choose_154
    refine ev_gg (by first | omega | (constructor <;> omega)) ?_
    refine ev_gc (q_like (d := d - 1) (K := K) (F := F) (I := c) (x := wZ (V.getD c nd0) 0) (by omega) rfl hK rfl hF rfl (by omega) hne (nr_nw nr 0 (by decide)) (cr_z.mpr (hL.2.2.1 c hc).1) hM) (fun y S1 q => ?_)
    obtain ⟨q1, q2, q3⟩ := q
    rw [show apM (some (A ++ wZ x j :: B)) [wZ (wZ (V.getD c nd0) 0) 0] = some (A ++ wZ x j :: (B ++ [wZ (V.getD c nd0) 0])) by
      rw [← apM_some lW, apM_app, apM_some (by simp only [List.length_append, List.length_cons, List.length_nil]; omega), List.append_assoc]; rfl] at q1
    have p4 : S1.1 514 (top - 1) = (A.length : Int) := by rw [fc_i q2 (by omega)]; exact h514
    refine ev_gv ?_
    refine ev_gg (by first | omega | (constructor <;> omega)) ?_
    refine ev_gv ?_
    rw [show ((top : Int) - 1).toNat = top - 1 by omega, p4]
    refine ev_gcr (q_at) ?_
    refine ev_gv ?_
    refine ev_gg (by first | omega | (constructor <;> omega)) ?_
    refine ev_gv ?_
    have cell := (q1.2.2.2.1 A.length (by simp only [List.length_append, List.length_cons]; omega)).2
    rw [get_mid] at cell
    rw [show ((101 * (K : Int) + (A.length : Int)) * 61 + 3).toNat = 6161 * K + 61 * A.length + 3 by omega, cell]
    refine ev_gv ?_
    refine ev_gv ?_
    have m2 := md_set3 (i := A.length) (v := j + 1) q1 (by omega) (by omega)
    rw [Option.map_some, get_mid, set_mid] at m2
    have e1 : ((wZ x j).2.1 : Int) + 1 = ((j + 1 : Nat) : Int) := by show (j : Int) + 1 = _; omega
    rw [e1]
    have f2 : FC (chP K top) S (gI S1 501 (6161 * K + 61 * A.length + 3) ((j + 1 : Nat) : Int)) := fc_tr (fc_mono q2 (fun c j z => Or.inl z)) (fc_gI (Or.inl (Or.inl ⟨rfl, by omega, by omega⟩)))
    have hL2 : LK (gI S1 501 (6161 * K + 61 * A.length + 3) ((j + 1 : Nat) : Int)) F V := lk_fr hL f2 (fun j _ _ => by omega) (by omega)
    refine ev_gcr (q_manyL (d := d - 1) (K := F) (I := c) (by omega) rfl hF rfl hL2 hc) ?_
    rw [ckn, List.length_nil]
    refine ev_gg (by decide) ?_
    refine ev_ite (fun _ => ?_) (fun z => by omega)
    exact nx _ m2 f2
  · refine ev_up (fun n => e_X12_choose_154) ?_
    unfold b_X12_choose_154
    refine ev_gg (by first | omega | (constructor <;> omega)) ?_
    refine ev_gc (q_like (d := d - 1) (K := K) (F := F) (I := c) (x := wZ (V.getD c nd0) 0) (by omega) rfl hK rfl hF rfl (by omega) hne (nr_nw nr 0 (by decide)) (cr_z.mpr (hL.2.2.1 c hc).1) hM) (fun y S1 q => ?_)
    obtain ⟨q1, q2, q3⟩ := q
    have eM : chM V w (f + 1) c = wZ (V.getD c nd0) (fsN V w c).length :: ((fsN V w c).map (fun e => chM V w f (emN V w c e))).flatten := rfl
    have l2 : 1 ≤ (chM V w (f + 1) c).length := by rw [eM, List.length_cons]; omega
    rw [show apM (some (A ++ wZ x j :: B)) [wZ (wZ (V.getD c nd0) 0) 0] = some (A ++ wZ x j :: (B ++ [wZ (V.getD c nd0) 0])) by
      rw [← apM_some lW, apM_app, apM_some (by simp only [List.length_append, List.length_cons, List.length_nil]; omega), List.append_assoc]; rfl] at q1
    have p4 : S1.1 514 (top - 1) = (A.length : Int) := by rw [fc_i q2 (by omega)]; exact h514
    refine ev_gv ?_
    refine ev_gg (by first | omega | (constructor <;> omega)) ?_
    refine ev_gv ?_
    rw [show ((top : Int) - 1).toNat = top - 1 by omega, p4]
    refine ev_gcr (q_at) ?_
    refine ev_gv ?_
    refine ev_gg (by first | omega | (constructor <;> omega)) ?_
    refine ev_gv ?_
    have cell := (q1.2.2.2.1 A.length (by simp only [List.length_append, List.length_cons]; omega)).2
    rw [get_mid] at cell
    rw [show ((101 * (K : Int) + (A.length : Int)) * 61 + 3).toNat = 6161 * K + 61 * A.length + 3 by omega, cell]
    refine ev_gv ?_
    refine ev_gv ?_
    have m2 := md_set3 (i := A.length) (v := j + 1) q1 (by omega) (by omega)
    rw [Option.map_some, get_mid, set_mid] at m2
    have e1 : ((wZ x j).2.1 : Int) + 1 = ((j + 1 : Nat) : Int) := by show (j : Int) + 1 = _; omega
    rw [e1]
    have f2 : FC (chP K top) S (gI S1 501 (6161 * K + 61 * A.length + 3) ((j + 1 : Nat) : Int)) := fc_tr (fc_mono q2 (fun c j z => Or.inl z)) (fc_gI (Or.inl (Or.inl ⟨rfl, by omega, by omega⟩)))
    have hL2 : LK (gI S1 501 (6161 * K + 61 * A.length + 3) ((j + 1 : Nat) : Int)) F V := lk_fr hL f2 (fun j _ _ => by omega) (by omega)
    generalize gI S1 501 (6161 * K + 61 * A.length + 3) ((j + 1 : Nat) : Int) = S2 at m2 f2 hL2 ⊢
    refine ev_gcr (q_manyL (d := d - 1) (K := F) (I := c) (by omega) rfl hF rfl hL2 hc) ?_
    refine ev_gg (by first | omega | (constructor <;> omega)) ?_
    refine ev_ite (fun kz => ?_) (fun kz => ?_)
    · have ckn : kids V c = [] := List.length_eq_zero_iff.mp (by omega)
      have e0 : fsN V w c = [] := by
        unfold fsN orV
        rw [ckn]
        split
        · rfl
        · split <;> rfl
      rw [eM, e0] at nx
      exact nx _ m2 f2
    · have ckn : kids V c ≠ [] := fun e => by rw [e] at kz; exact kz (by decide)
      have c4 : 4 ≤ nk V c := by
        by_cases q : nk V c < 4
        · have := hV.1.1.2.2 c hc q; omega
        · omega
      have hOc := hO c hc c4 ckn
      have yl : y = (((A ++ wZ x (j + 1) :: B).length : Nat) : Int) := by
        rw [q3, hM.2.1]
        simp only [List.length_append, List.length_cons]
      refine ev_gg (by first | omega | (constructor <;> omega)) ?_
      refine ev_gv ?_
      refine ev_gv ?_
      refine ev_gv ?_
      refine ev_gv ?_
      rw [Int.toNat_natCast, show (top : Int) + 1 = ((top + 1 : Nat) : Int) by omega]
      have f5 : FC (chP K top) S2 (gI (gI (gI S2 513 top (c : Int)) 514 top y) 515 top (-1)) := fc_tr (fc_gI (Or.inr (Or.inl ⟨rfl, by omega⟩))) (fc_tr (fc_gI (Or.inr (Or.inr (Or.inl ⟨rfl, by omega⟩)))) (fc_gI (Or.inr (Or.inr (Or.inr ⟨rfl, by omega⟩)))))
      have f5' : FC (fun c j => c = 513 ∨ c = 514 ∨ c = 515) S2 (gI (gI (gI S2 513 top (c : Int)) 514 top y) 515 top (-1)) := fc_tr (fc_gI (Or.inl rfl)) (fc_tr (fc_gI (Or.inr (Or.inl rfl))) (fc_gI (Or.inr (Or.inr rfl))))
      have m5 := mdr_fr m2 f5' (fun j _ _ => by omega) (by omega) (by omega)
      have c513 : (gI (gI (gI S2 513 top (c : Int)) 514 top y) 515 top (-1)).1 513 top = (c : Int) := by rw [gI_c (by decide), gI_c (by decide), gI_a]
      have c514 : (gI (gI (gI S2 513 top (c : Int)) 514 top y) 515 top (-1)).1 514 top = (((A ++ wZ x (j + 1) :: B).length : Nat) : Int) := by rw [gI_c (by decide), gI_a, yl]
      have c515 : (gI (gI (gI S2 513 top (c : Int)) 514 top y) 515 top (-1)).1 515 top = -1 := gI_a
      generalize gI (gI (gI S2 513 top (c : Int)) 514 top y) 515 top (-1) = S5 at f5 m5 c513 c514 c515 ⊢
      have hfs : (fsN V w c).length ≤ 100 := by
        have : ∀ (L : List Nat), L.length ≤ ((L.map (fun e => chM V w f (emN V w c e))).flatten).length := by
          intro L
          induction L with
          | nil => exact Nat.zero_le _
          | cons a L ihL =>
            rw [List.map_cons, List.flatten_cons, List.length_append, List.length_cons]
            have : 1 ≤ (chM V w f (emN V w c a)).length := by
              cases f with
              | zero => exact Nat.le_refl _
              | succ f => show 1 ≤ (_ :: _ : List ND).length; rw [List.length_cons]; omega
            omega
        have := this (fsN V w c)
        rw [eM, List.length_cons] at hlen
        omega
      rw [eM] at nx hlen
      rw [List.length_cons] at hlen
      refine ch_loop hd hF hK hne hV hw ih hc c4 ckn (fun r => by have := hdp r; omega) (by omega) hOc (A := A ++ wZ x (j + 1) :: B) (z := V.getD c nd0) (R := A ++ wZ x (j + 1) :: (B ++ (wZ (V.getD c nd0) (fsN V w c).length :: ((fsN V w c).map (fun e => chM V w f (emN V w c e))).flatten))) (S := S5) (lk_fr hL2 f5 (fun j _ _ => by omega) (by omega)) (by simp only [List.length_append, List.length_cons]; omega) (fun S6 m6 f6 => nx S6 m6 (fc_tr f2 (fc_tr f5 f6))) (fsN V w c) (-1) S5 [] 0 hOc.1 (fun y hy => hy) c513 c514 c515 ?_ fc_rf (by omega) ?_
      · rw [List.append_assoc]
        exact m5
      · rw [Nat.zero_add, List.nil_append, List.append_assoc]
        rfl
end CHO
