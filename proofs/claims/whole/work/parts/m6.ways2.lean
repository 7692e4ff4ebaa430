/-! THE REFERENCE: the ways 2 and 3 choose as like KEYS are one -/
section WA3
variable {d F : Nat} {V : List ND} {w : Int}
theorem fi_ch (hF : F < 48) (hV : TR V ∧ PZL V) {G : Nat} (hG : G < V.length) (k5 : nk V G = 5) (hw : w = 2 ∨ w = 3) : ∀ (R P : List Nat) (last : Int), kids V G = P ++ R → (∀ x, x = nfN V P R → NxT F V G w last x) → ChT F V G w last (fiN V P R)
  | [], P, last, hk, hx => hx (-1) rfl
  | k :: R, P, last, hk, hx => by
    have z := pz_l hV.2
    have hk2 : kids V G = (P ++ [k]) ++ R := by rw [List.append_assoc]; exact hk
    rw [fiN_c]
    by_cases c : kyIn V P k = true
    · rw [if_pos c]
      refine fi_ch hF hV hG k5 hw R (P ++ [k]) last hk2 (fun x e => hx x ?_)
      rw [e]
      show _ = if kyIn V P k = true then nfN V (P ++ [k]) R else (k : Int)
      rw [if_pos c]
    · rw [if_neg c]
      refine ⟨hx (k : Int) ?_, fi_ch hF hV hG k5 hw R (P ++ [k]) (k : Int) hk2 (fun x e S d hd hL => ?_)⟩
      · show _ = if kyIn V P k = true then nfN V (P ++ [k]) R else (k : Int)
        rw [if_neg c]
      · subst e
        have l := hL.2.1
        have nr := hL.2.2.2 _ (nd_mem hG)
        have kk := kid_in3 hV.1.1 z hG (by rw [hk]; exact List.mem_append_right _ List.mem_cons_self)
        have wg := hV.1.1.1 G hG
        have eR := (ks_tail (e := G + nz V G) z P (G + 1) hk).1
        refine ev_up (fun n => e_X12_nextChild_0) ?_
        unfold b_X12_nextChild_0
        refine ev_gg (by first | omega | (constructor <;> omega)) ?_
        refine ev_ite (fun _ => ?_) (fun z => by omega)
        refine ev_gg (by first | omega | (constructor <;> omega)) ?_
        refine ev_gcr (q_endL (d := d - 1) (K := F) (I := k) (by omega) rfl hF rfl hL kk.2.1) ?_
        refine ev_up (fun n => e_X12_nextChild_17) ?_
        unfold b_X12_nextChild_17
        refine ev_gg (by first | omega | (constructor <;> omega)) ?_
        refine ev_ite (fun z => by omega) (fun _ => ?_)
        refine ev_gg (by first | omega | (constructor <;> omega)) ?_
        refine ev_gcr (q_kindL (d := d - 1) (K := F) (I := G) (by omega) rfl hF rfl hL hG) ?_
        rw [k5]
        refine ev_gg (by decide) ?_
        refine ev_ite (fun _ => ?_) (fun z => by omega)
        refine ev_ite (fun _ => ?_) (fun z => by omega)
        exact nx_156 hF hV hG R (P ++ [k]) (k + nz V k) S d (by omega) hL hk2 eR.symm (by omega) kk.2.2
theorem chO_23 (hd : 5 ≤ d) (hF : F < 48) (hV : TR V ∧ PZL V) (hl : V.length ≤ 100) (hw : w = 2 ∨ w = 3) {g : Nat} (hg : g < V.length) (h4 : 4 ≤ nk V g) : ChO d F V w g := by
  have z := pz_l hV.2
  have wg := hV.1.1.1 g hg
  have zg := z g
  by_cases k5 : nk V g = 5
  · have ef : fsN V w g = fiN V [] (kids V g) := by unfold fsN; rw [if_pos ⟨k5, by omega⟩]
    have em : ∀ c, emN V w g c = if w = 3 then laN V c (kids V g) c else c := fun c => by
      unfold emN
      by_cases q : w = 3
      · rw [if_pos q, if_pos ⟨k5, q⟩]
      · rw [if_neg q, if_neg (fun y => q y.2)]
    refine ⟨?_, fun c hc => ?_, fun c hc w3 _ S hL => ?_⟩
    · rw [ef]
      refine fi_ch hF hV hg k5 hw (kids V g) [] (-1) rfl (fun x e S d hd hL => ?_)
      subst e
      have l := hL.2.1
      refine ev_up (fun n => e_X12_nextChild_0) ?_
      unfold b_X12_nextChild_0
      refine ev_gg (by decide) ?_
      refine ev_ite (fun z => by omega) (fun _ => ?_)
      refine ev_gv ?_
      rw [show (g : Int) + 1 = ((g + 1 : Nat) : Int) by omega]
      refine ev_up (fun n => e_X12_nextChild_17) ?_
      unfold b_X12_nextChild_17
      refine ev_gg (by first | omega | (constructor <;> omega)) ?_
      refine ev_ite (fun z => by omega) (fun _ => ?_)
      refine ev_gg (by first | omega | (constructor <;> omega)) ?_
      refine ev_gcr (q_kindL (d := d - 1) (K := F) (I := g) (by omega) rfl hF rfl hL hg) ?_
      rw [k5]
      refine ev_gg (by decide) ?_
      refine ev_ite (fun _ => ?_) (fun z => by omega)
      refine ev_ite (fun _ => ?_) (fun z => by omega)
      exact nx_156 hF hV hg (kids V g) [] (g + 1) S d (by omega) hL rfl rfl (by omega) (by omega)
    · rw [ef] at hc
      have ck := fiN_mem (kids V g) [] c hc
      refine ⟨ck, ?_⟩
      rw [em]
      split
      · rcases laN_mem (V := V) (c := c) (kids V g) c with e | e
        · rw [e]; exact ck
        · exact e
      · exact ck
    · rw [ef] at hc
      have ck := fiN_mem (kids V g) [] c hc
      have c3 := kid_in3 hV.1.1 z hg ck
      rw [em, if_pos w3]
      exact q_lastLike (d := d - 1) (by omega) rfl hF rfl rfl hL hV.1.1 hV.2 hg c3.2.1
  · obtain ⟨o1, o2, o3⟩ := ord_ch hV hl hg 0
    have eo : orV V g 0 = kids V g := by unfold orV; rw [if_neg (fun y => k5 y.1)]
    rw [eo] at o1
    have ef : fsN V w g = kids V g := by
      unfold fsN orV
      rw [if_neg (fun y => k5 y.1), if_neg (fun y => k5 y.1)]
    have em : ∀ c, emN V w g c = c := fun c => by unfold emN; rw [if_neg (fun y => k5 y.1)]
    refine ⟨?_, fun c hc => by rw [ef] at hc; rw [em]; exact ⟨hc, hc⟩, fun c hc w3 k => absurd k k5⟩
    rw [ef]
    have nx : ∀ last : Int, (last = -1 ∨ ∃ c ∈ kids V g, last = (c : Int)) → NxT F V g w last (nxW V g 0 last) := fun last hlast S d hd hL => by
      have l := hL.2.1
      have nr := hL.2.2.2 _ (nd_mem hg)
      have k4 : nk V g = 4 := by have : nk V g ≤ 5 := nr.2.1; omega
      have e0 : nxW V g 0 last = if last = -1 then cur (g + 1) (g + nz V g) else cur (last.toNat + nz V last.toNat) (g + nz V g) := by
        unfold nxW
        rw [if_neg (fun y => k5 y.1)]
      have p17 : ∀ (a : Nat), a ≤ 200 → nxW V g 0 last = cur a (g + nz V g) → Rd (fun n => f_X12_nextChild n d 17 S [(F : Int), (g : Int), last, w, (a : Int)]) (nxW V g 0 last) S := by
        intro a ha e
        clear hlast
        rw [e]
        refine ev_up (fun n => e_X12_nextChild_17) ?_
        unfold b_X12_nextChild_17
        refine ev_gg (by first | omega | (constructor <;> omega)) ?_
        refine ev_ite (fun z => by omega) (fun _ => ?_)
        refine ev_gg (by first | omega | (constructor <;> omega)) ?_
        refine ev_gcr (q_kindL (d := d - 1) (K := F) (I := g) (by omega) rfl hF rfl hL hg) ?_
        rw [k4]
        refine ev_gg (by decide) ?_
        refine ev_ite (fun z => by omega) (fun _ => ?_)
        refine ev_up (fun n => e_X12_nextChild_34) ?_
        unfold b_X12_nextChild_34
        refine ev_gg (by first | omega | (constructor <;> omega)) ?_
        refine ev_gcr (q_endL (d := d - 1) (K := F) (I := g) (by omega) rfl hF rfl hL hg) ?_
        refine ev_gg (by first | omega | (constructor <;> omega)) ?_
        refine ev_gg (by first | omega | (constructor <;> omega)) ?_
        unfold cur
        refine ev_ite (fun q => ?_) (fun q => ?_)
        · exact ev_ret ⟨by rw [if_neg (by omega)], rfl⟩
        · exact ev_ret ⟨by rw [if_pos (by omega)], rfl⟩
      refine ev_up (fun n => e_X12_nextChild_0) ?_
      unfold b_X12_nextChild_0
      refine ev_gg (kidO_inr hV.1.1 z hg l hlast) ?_
      refine ev_ite (fun q => ?_) (fun q => ?_)
      · obtain ⟨b, b1, rfl⟩ := hlast.resolve_left q
        have b3 := kid_in3 hV.1.1 z hg b1
        rw [if_neg q, Int.toNat_natCast] at e0
        refine ev_gg (by first | omega | (constructor <;> omega)) ?_
        refine ev_gcr (q_endL (d := d - 1) (K := F) (I := b) (by omega) rfl hF rfl hL b3.2.1) ?_
        exact p17 (b + nz V b) (by omega) e0
      · rw [if_pos (by omega)] at e0
        refine ev_gv ?_
        rw [show (g : Int) + 1 = ((g + 1 : Nat) : Int) by omega]
        exact p17 (g + 1) (by omega) e0
    have go : ∀ (L : List Nat) (last : Int), (last = -1 ∨ ∃ c ∈ kids V g, last = (c : Int)) → ChN (nxW V g 0) (nxW V g 0 last) L → (∀ c ∈ L, c ∈ kids V g) → ChT F V g w last L := by
      intro L
      induction L with
      | nil =>
        intro last h1 h2 h3
        have := nx last h1
        rw [show nxW V g 0 last = -1 from h2] at this
        exact this
      | cons c L ih =>
        intro last h1 h2 h3
        have := nx last h1
        rw [show nxW V g 0 last = (c : Int) from h2.1] at this
        exact ⟨this, ih (c : Int) (Or.inr ⟨c, h3 c List.mem_cons_self, rfl⟩) h2.2 (fun y hy => h3 y (List.mem_cons_of_mem _ hy))⟩
    exact go (kids V g) (-1) (Or.inl rfl) o1 (fun c hc => hc)
theorem map_foldl {α β γ : Type} {f : γ → β → γ} {m : α → β} : ∀ (L : List α) (e : γ), (L.map m).foldl f e = L.foldl (fun e a => f e (m a)) e
  | [], e => rfl
  | a :: L, e => map_foldl L (f e (m a))
/-- what is chosen, by the ways 2 and 3 -/
theorem ch_nr (hw : w = 2 ∨ w = 3) (hV : TR V ∧ PZL V) (hr : ∀ y ∈ V, NR y) (hl : V.length ≤ 100) : ∀ (f g : Nat), g < V.length → (∀ r, dpS r (sg V g) ≤ (f : Int)) → chM V w f g = mny (nrH (decide (w = 3)) f (sg V g)) := by
  have hz := pz_l hV.2
  have tr : ∀ g, g < V.length → TR (sg V g) ∧ PZL (sg V g) := fun g hg => tr_sg hV.1.1 hV.2 hg
  have leaf : ∀ (f g : Nat), g < V.length → rk (sg V g) < 4 → chM V w f g = [wZ (V.getD g nd0) 0] ∧ mny (sg V g) = [wZ (V.getD g nd0) 0] := by
    intro f g hg h
    have rt := sg_root hg (hz g)
    refine ⟨?_, ?_⟩
    · cases f with
      | zero => rfl
      | succ f =>
        have kl := kids_le hV.1.1 hz (g := g)
        have ck : kids V g = [] := by
          have := hV.1.1.2.2 g hg (by rw [rk_sg hg (hz g)] at h; exact h)
          exact List.length_eq_zero_iff.mp (by omega)
        have ef : fsN V w g = [] := by
          unfold fsN
          rw [orV_nil ck, ck]
          split <;> rfl
        unfold chM
        rw [ef]
        rfl
    · rcases tr_cases (tr g hg) with ⟨a, b, c⟩ | ⟨a, b⟩
      · rw [b, mny_leaf c, rt]
      · omega
  intro f
  induction f with
  | zero =>
    intro g hg hd
    have h0 : rk (sg V g) < 4 := by
      by_cases q : 4 ≤ rk (sg V g)
      · have := hd 0
        unfold dpS at this
        rw [if_pos q] at this
        omega
      · omega
    rw [(leaf 0 g hg h0).1]
    exact (leaf 0 g hg h0).2.symm
  | succ f ih =>
    intro g hg hd
    have rkg := rk_sg hg (hz g)
    have nr := hr _ (nd_mem hg)
    have kr : 0 ≤ nk V g ∧ nk V g ≤ 5 := ⟨nr.1, nr.2.1⟩
    by_cases h4 : rk (sg V g) < 4
    · rw [(leaf (f + 1) g hg h4).1, nrH_s, if_neg (by omega), if_neg (by omega)]
      exact (leaf (f + 1) g hg h4).2.symm
    · have rt := sg_root hg (hz g)
      have kdg := kd_sg hV.2 hV.1.1 hg
      have x4 : 4 ≤ ((sg V g).getD 0 nd0).1 := by have : rk (sg V g) = ((sg V g).getD 0 nd0).1 := rfl; omega
      have kk : ∀ c ∈ kids V g, c < V.length ∧ ∀ r, dpS r (sg V c) ≤ (f : Int) := fun c hc => by
        have c3 := kid_in3 hV.1.1 hz hg hc
        exact ⟨c3.2.1, dp_kd hd (by omega) (by rw [kdg]; exact List.mem_map.mpr ⟨c, hc, rfl⟩)⟩
      have main : ∀ (C : List Nat) (e : Nat → Nat), (∀ c ∈ C, e c ∈ kids V g) → mny (gpN ((sg V g).getD 0 nd0) (C.map (fun c => nrH (decide (w = 3)) f (sg V (e c)))) (C.map (fun c => nrH (decide (w = 3)) f (sg V (e c)))).length) = wZ (V.getD g nd0) C.length :: (C.map (fun c => chM V w f (e c))).flatten := by
        intro C e he
        rw [mny_gp x4 (fun t ht => by
          obtain ⟨c, hc, rfl⟩ := List.mem_map.mp ht
          exact (nrH_tr f _ (tr _ (kk _ (he c hc)).1)).1), rt, List.length_map, List.map_map]
        congr 2
        refine List.map_congr_left (fun c hc => ?_)
        exact (ih (e c) (kk _ (he c hc)).1 (kk _ (he c hc)).2).symm
      rw [nrH_s]
      by_cases k5 : nk V g = 5
      · have ef : fsN V w g = fiN V [] (kids V g) := by unfold fsN; rw [if_pos ⟨k5, by omega⟩]
        have em : ∀ c, emN V w g c = if decide (w = 3) = true then laN V c (kids V g) c else c := fun c => by
          unfold emN
          by_cases q : w = 3
          · rw [if_pos (decide_eq_true q), if_pos ⟨k5, q⟩]
          · rw [if_neg (show ¬ (nk V g = 5 ∧ w = 3) from fun y => q y.2), if_neg (show ¬ decide (w = 3) = true by rw [decide_eq_false q]; decide)]
        have hG : ∀ c : Nat, c ∈ kids V g → rq (nrH (decide (w = 3)) f (sg V c)) = nq V c ∧ kyT (nrH (decide (w = 3)) f (sg V c)) (nq V c) = nrH (decide (w = 3)) f (sg V c) := fun c hc => by
          have t := nrH_tr (h := decide (w = 3)) f _ (tr c (kk c hc).1)
          have r := t.2.trans (rq_sg (kk c hc).1 (hz c))
          exact ⟨r, by rw [← r]; exact ky_self t.1.1.2.1⟩
        rw [if_pos (by omega), kdg, map_foldl]
        have fold : (kids V g).foldl (fun E a => inH (decide (w = 3)) (nrH (decide (w = 3)) f (sg V a)) (rq (sg V a)) E) [] = (fiN V [] (kids V g)).map (fun c => nrH (decide (w = 3)) f (sg V (if decide (w = 3) = true then laN V c (kids V g) c else c))) := by
          have hG2 : ∀ k : Nat, rq (if k ∈ kids V g then nrH (decide (w = 3)) f (sg V k) else kyT (sg V 0) (nq V k)) = nq V k ∧ kyT (if k ∈ kids V g then nrH (decide (w = 3)) f (sg V k) else kyT (sg V 0) (nq V k)) (nq V k) = (if k ∈ kids V g then nrH (decide (w = 3)) f (sg V k) else kyT (sg V 0) (nq V k)) := fun k => by
            by_cases q : k ∈ kids V g
            · rw [if_pos q]; exact hG k q
            · rw [if_neg q]; exact ⟨rfl, rfl⟩
          have key := fold_fi (V := V) (h := decide (w = 3)) (G := fun k => if k ∈ kids V g then nrH (decide (w = 3)) f (sg V k) else kyT (sg V 0) (nq V k)) hG2 (kids V g) []
          rw [List.nil_append] at key
          have e1 : (kids V g).foldl (fun E k => inH (decide (w = 3)) (if k ∈ kids V g then nrH (decide (w = 3)) f (sg V k) else kyT (sg V 0) (nq V k)) (nq V k) E) [] = (kids V g).foldl (fun E a => inH (decide (w = 3)) (nrH (decide (w = 3)) f (sg V a)) (rq (sg V a)) E) [] := by
            have : ∀ (L : List Nat) (E : List (List ND)), (∀ c ∈ L, c ∈ kids V g) → L.foldl (fun E k => inH (decide (w = 3)) (if k ∈ kids V g then nrH (decide (w = 3)) f (sg V k) else kyT (sg V 0) (nq V k)) (nq V k) E) E = L.foldl (fun E a => inH (decide (w = 3)) (nrH (decide (w = 3)) f (sg V a)) (rq (sg V a)) E) E := by
              intro L
              induction L with
              | nil => intro E _; rfl
              | cons c L ihL =>
                intro E hL
                have cm := hL c List.mem_cons_self
                rw [List.foldl_cons, List.foldl_cons, if_pos cm, rq_sg (kk c cm).1 (hz c)]
                exact ihL _ (fun y hy => hL y (List.mem_cons_of_mem _ hy))
            exact this (kids V g) [] (fun c hc => hc)
          rw [← e1]
          refine key.trans (List.map_congr_left (fun c hc => ?_))
          have ck := fiN_mem (kids V g) [] c hc
          have lm : (if decide (w = 3) = true then laN V c (kids V g) c else c) ∈ kids V g := by
            split
            · rcases laN_mem (V := V) (c := c) (kids V g) c with e | e
              · rw [e]; exact ck
              · exact e
            · exact ck
          exact if_pos lm
        rw [fold]
        have mm := main (fiN V [] (kids V g)) (fun c => if decide (w = 3) = true then laN V c (kids V g) c else c) (fun c hc => by
          have ck := fiN_mem (kids V g) [] c hc
          show (if decide (w = 3) = true then laN V c (kids V g) c else c) ∈ kids V g
          split
          · rcases laN_mem (V := V) (c := c) (kids V g) c with e | e
            · rw [e]; exact ck
            · exact e
          · exact ck)
        rw [mm]
        rw [show chM V w (f + 1) g = wZ (V.getD g nd0) (fsN V w g).length :: ((fsN V w g).map (fun c => chM V w f (emN V w g c))).flatten from rfl, ef]
        congr 2
        exact List.map_congr_left (fun c hc => by rw [em])
      · have ef : fsN V w g = kids V g := by
          unfold fsN orV
          rw [if_neg (fun y => k5 y.1), if_neg (fun y => k5 y.1)]
        have em : ∀ c, emN V w g c = c := fun c => by unfold emN; rw [if_neg (fun y => k5 y.1)]
        rw [if_neg (by omega), if_pos (by omega), kdg, List.map_map]
        have mm := main (kids V g) (fun c => c) (fun c hc => hc)
        rw [show (nrH (decide (w = 3)) f ∘ sg V) = (fun c => nrH (decide (w = 3)) f (sg V c)) from rfl, mm]
        rw [show chM V w (f + 1) g = wZ (V.getD g nd0) (fsN V w g).length :: ((fsN V w g).map (fun c => chM V w f (emN V w g c))).flatten from rfl, ef]
        congr 2
        exact List.map_congr_left (fun c hc => by rw [em])
end WA3
