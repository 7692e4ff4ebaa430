/-! CALLS of both (sorted, both, undo, select, find, put, cut, join, quarrel) -/
section PRS
variable {S : GS} {Ds : List (List ND)} {pg pp : List Int} {r : Int} {L : List Nat} {Q : List (List Int)} {C : List (Int × Int)} {D : Nat}
theorem pr_sorted {a : Int} (hD : 300 ≤ D) (hC : ClS stT Ds pg pp r L Q C S) (hR : RfS S stT Ds pg pp r L Q C S) (ha : inr a) : PR inr (fun n => f_L_sorted n D 0 S [a]) (fun n S1 => f_X12_sorted n D 0 S1 [a]) (Ds, pg, pp, r, L, Q, C) S := by
  have ex := ex_e
  have n4 := hC.1.2.1
  by_cases c1 : hasD Ds a
  · skip
    by_cases c2 : Ds.length < 40
    · skip
      have vi : inr (Ds.length : Int) := by constructor <;> omega
      refine ⟨0, (Ds.length : Int), ((Ds ++ [kyT (woF 1 12 (atD' Ds a)) []]), pg, pp, r, L, Q, C), by decide, fun _ => vi, ?_, fun S1 h1 => ?_⟩
      · unfold f_L_sorted
        dsimp only
        refine ev_gg (by first | omega | (constructor <;> omega)) ?_
        refine ev_gc (ev_hi (fun n => (kh_X11_sorted n) _ _ _) (c_sorted (d := D - 1) (h := hC) (hd := by omega) (ha := ha))) (fun x1 S1 q => ?_)
        obtain ⟨q, hx⟩ := q
        rw [if_pos c1, if_pos c2] at q
        obtain ⟨hv, hq⟩ := q
        have lx : x1 < exB := by
          rw [hv]
          have := vi.2; omega
        refine ev_ite (fun _ => ?_) (fun z => absurd lx z)
        refine ev_gg ((by rw [hv]; exact vi)) ?_
        exact ev_ret ⟨rfl, fun _ => by rw [gI_a]; exact hv, cls_600 (l := ((Ds ++ [kyT (woF 1 12 (atD' Ds a)) []]), pg, pp, r, L, Q, C)) hq, hx_600 hx⟩
      · have h1' : RfS S1 stT Ds pg pp r L Q C S1 := h1
        refine ev_mono (ev_hi (fun n => (kr_X12_sorted n).1 _ _ _) (r_sorted (d := D) (h := h1') (hd := by omega) (ha := ha))) (fun b2 S2 q => ?_)
        obtain ⟨q, hx⟩ := q
        rw [if_pos c1, if_pos c2] at q
        obtain ⟨hb2, ht, hq⟩ := q
        exact ⟨ht, fun _ => hb2, hq, by rw [(hx 600 (by decide)).1]⟩
    · skip
      refine ⟨2, 0, (Ds, pg, pp, r, L, Q, C), by decide, fun z => absurd z (by decide), ?_, fun S1 h1 => ?_⟩
      · unfold f_L_sorted
        dsimp only
        refine ev_gg (by first | omega | (constructor <;> omega)) ?_
        refine ev_gc (ev_hi (fun n => (kh_X11_sorted n) _ _ _) (c_sorted (d := D - 1) (h := hC) (hd := by omega) (ha := ha))) (fun x1 S1 q => ?_)
        obtain ⟨q, hx⟩ := q
        rw [if_pos c1, if_neg c2] at q
        obtain ⟨hv, hq0⟩ := q
        have hq : ClS stT Ds pg pp r L Q C S1 := by first | exact hq0 | (rw [hq0]; exact hC)
        refine ev_ite (fun z => by omega) (fun _ => ?_)
        refine ev_ite (fun z => by omega) (fun _ => ?_)
        refine ev_ite (fun _ => ?_) (fun z => absurd hv z)
        exact ev_ret ⟨rfl, fun z => absurd z (by decide), hq, hx_of hx⟩
      · have h1' : RfS S1 stT Ds pg pp r L Q C S1 := h1
        refine ev_mono (ev_hi (fun n => (kr_X12_sorted n).1 _ _ _) (r_sorted (d := D) (h := h1') (hd := by omega) (ha := ha))) (fun b2 S2 q => ?_)
        obtain ⟨q, hx⟩ := q
        rw [if_pos c1, if_neg c2] at q
        obtain ⟨ht, hq⟩ := q
        exact ⟨ht, fun z => absurd z (by decide), hq, by rw [(hx 600 (by decide)).1]⟩
  · skip
    refine ⟨1, 0, (Ds, pg, pp, r, L, Q, C), by decide, fun z => absurd z (by decide), ?_, fun S1 h1 => ?_⟩
    · unfold f_L_sorted
      dsimp only
      refine ev_gg (by first | omega | (constructor <;> omega)) ?_
      refine ev_gc (ev_hi (fun n => (kh_X11_sorted n) _ _ _) (c_sorted (d := D - 1) (h := hC) (hd := by omega) (ha := ha))) (fun x1 S1 q => ?_)
      obtain ⟨q, hx⟩ := q
      rw [if_neg c1] at q
      obtain ⟨hv, hq0⟩ := q
      have hq : ClS stT Ds pg pp r L Q C S1 := by first | exact hq0 | (rw [hq0]; exact hC)
      refine ev_ite (fun z => by omega) (fun _ => ?_)
      refine ev_ite (fun _ => ?_) (fun z => absurd hv z)
      exact ev_ret ⟨rfl, fun z => absurd z (by decide), hq, hx_of hx⟩
    · have h1' : RfS S1 stT Ds pg pp r L Q C S1 := h1
      refine ev_mono (ev_hi (fun n => (kr_X12_sorted n).1 _ _ _) (r_sorted (d := D) (h := h1') (hd := by omega) (ha := ha))) (fun b2 S2 q => ?_)
      obtain ⟨q, hx⟩ := q
      rw [if_neg c1] at q
      obtain ⟨ht, hq⟩ := q
      exact ⟨ht, fun z => absurd z (by decide), hq, by rw [(hx 600 (by decide)).1]⟩
theorem pr_both {a b : Int} (hD : 300 ≤ D) (hC : ClS stT Ds pg pp r L Q C S) (hR : RfS S stT Ds pg pp r L Q C S) (ha : inr a) (hb : inr b) : PR inr (fun n => f_L_both n D 0 S [a, b]) (fun n S1 => f_X12_both n D 0 S1 [a, b]) (Ds, pg, pp, r, L, Q, C) S := by
  have ex := ex_e
  have n4 := hC.1.2.1
  by_cases c1 : hasD Ds a ∧ hasD Ds b
  · skip
    by_cases c2 : Ds.length < 40 ∧ pOK (gpN (ndK 4) [atD' Ds a, atD' Ds b] 2)
    · skip
      have vi : inr (Ds.length : Int) := by constructor <;> omega
      refine ⟨0, (Ds.length : Int), ((Ds ++ [kyT (gpN (ndK 4) [atD' Ds a, atD' Ds b] 2) []]), pg, pp, r, L, Q, C), by decide, fun _ => vi, ?_, fun S1 h1 => ?_⟩
      · unfold f_L_both
        dsimp only
        refine ev_gg (by first | omega | (constructor <;> omega)) ?_
        refine ev_gc (ev_hi (fun n => (kh_X11_both n) _ _ _ _) (c_both (d := D - 1) (h := hC) (hd := by omega) (ha := ha) (hb := hb))) (fun x1 S1 q => ?_)
        obtain ⟨q, hx⟩ := q
        rw [if_pos c1, if_pos c2] at q
        obtain ⟨hv, hq⟩ := q
        have lx : x1 < exB := by
          rw [hv]
          have := vi.2; omega
        refine ev_ite (fun _ => ?_) (fun z => absurd lx z)
        refine ev_gg ((by rw [hv]; exact vi)) ?_
        exact ev_ret ⟨rfl, fun _ => by rw [gI_a]; exact hv, cls_600 (l := ((Ds ++ [kyT (gpN (ndK 4) [atD' Ds a, atD' Ds b] 2) []]), pg, pp, r, L, Q, C)) hq, hx_600 hx⟩
      · have h1' : RfS S1 stT Ds pg pp r L Q C S1 := h1
        refine ev_mono (ev_hi (fun n => (kr_X12_both n).1 _ _ _ _) (r_both (d := D) (h := h1') (hd := by omega) (ha := ha) (hb := hb))) (fun b2 S2 q => ?_)
        obtain ⟨q, hx⟩ := q
        rw [if_pos c1, if_pos c2] at q
        obtain ⟨hb2, ht, hq⟩ := q
        exact ⟨ht, fun _ => hb2, hq, by rw [(hx 600 (by decide)).1]⟩
    · skip
      refine ⟨2, 0, (Ds, pg, pp, r, L, Q, C), by decide, fun z => absurd z (by decide), ?_, fun S1 h1 => ?_⟩
      · unfold f_L_both
        dsimp only
        refine ev_gg (by first | omega | (constructor <;> omega)) ?_
        refine ev_gc (ev_hi (fun n => (kh_X11_both n) _ _ _ _) (c_both (d := D - 1) (h := hC) (hd := by omega) (ha := ha) (hb := hb))) (fun x1 S1 q => ?_)
        obtain ⟨q, hx⟩ := q
        rw [if_pos c1, if_neg c2] at q
        obtain ⟨hv, hq0⟩ := q
        have hq : ClS stT Ds pg pp r L Q C S1 := by first | exact hq0 | (rw [hq0]; exact hC)
        refine ev_ite (fun z => by omega) (fun _ => ?_)
        refine ev_ite (fun z => by omega) (fun _ => ?_)
        refine ev_ite (fun _ => ?_) (fun z => absurd hv z)
        exact ev_ret ⟨rfl, fun z => absurd z (by decide), hq, hx_of hx⟩
      · have h1' : RfS S1 stT Ds pg pp r L Q C S1 := h1
        refine ev_mono (ev_hi (fun n => (kr_X12_both n).1 _ _ _ _) (r_both (d := D) (h := h1') (hd := by omega) (ha := ha) (hb := hb))) (fun b2 S2 q => ?_)
        obtain ⟨q, hx⟩ := q
        rw [if_pos c1, if_neg c2] at q
        obtain ⟨ht, hq⟩ := q
        exact ⟨ht, fun z => absurd z (by decide), hq, by rw [(hx 600 (by decide)).1]⟩
  · skip
    refine ⟨1, 0, (Ds, pg, pp, r, L, Q, C), by decide, fun z => absurd z (by decide), ?_, fun S1 h1 => ?_⟩
    · unfold f_L_both
      dsimp only
      refine ev_gg (by first | omega | (constructor <;> omega)) ?_
      refine ev_gc (ev_hi (fun n => (kh_X11_both n) _ _ _ _) (c_both (d := D - 1) (h := hC) (hd := by omega) (ha := ha) (hb := hb))) (fun x1 S1 q => ?_)
      obtain ⟨q, hx⟩ := q
      rw [if_neg c1] at q
      obtain ⟨hv, hq0⟩ := q
      have hq : ClS stT Ds pg pp r L Q C S1 := by first | exact hq0 | (rw [hq0]; exact hC)
      refine ev_ite (fun z => by omega) (fun _ => ?_)
      refine ev_ite (fun _ => ?_) (fun z => absurd hv z)
      exact ev_ret ⟨rfl, fun z => absurd z (by decide), hq, hx_of hx⟩
    · have h1' : RfS S1 stT Ds pg pp r L Q C S1 := h1
      refine ev_mono (ev_hi (fun n => (kr_X12_both n).1 _ _ _ _) (r_both (d := D) (h := h1') (hd := by omega) (ha := ha) (hb := hb))) (fun b2 S2 q => ?_)
      obtain ⟨q, hx⟩ := q
      rw [if_neg c1] at q
      obtain ⟨ht, hq⟩ := q
      exact ⟨ht, fun z => absurd z (by decide), hq, by rw [(hx 600 (by decide)).1]⟩
theorem pr_undo (hD : 300 ≤ D) (hC : ClS stT Ds pg pp r L Q C S) (hR : RfS S stT Ds pg pp r L Q C S)  : PR inr (fun n => f_L_undo n D 0 S []) (fun n S1 => f_X12_undo n D 0 S1 []) (Ds, pg, pp, r, L, Q, C) S := by
  have ex := ex_e
  have n4 := hC.1.2.1
  by_cases c1 : 1 ≤ Ds.length
  · skip
    have vi : inr ((Ds.length : Int) - 1) := by constructor <;> omega
    refine ⟨0, ((Ds.length : Int) - 1), ((Ds.take (Ds.length - 1)), pg, pp, r, L, Q, C), by decide, fun _ => vi, ?_, fun S1 h1 => ?_⟩
    · unfold f_L_undo
      dsimp only
      refine ev_gg (by first | omega | (constructor <;> omega)) ?_
      refine ev_gc (ev_hi (fun n => (kh_X11_undo n) _ _) (c_undo (d := D - 1) (h := hC) )) (fun x1 S1 q => ?_)
      obtain ⟨q, hx⟩ := q
      rw [if_pos c1] at q
      obtain ⟨hv, hq⟩ := q
      have lx : x1 < exB := by
        rw [hv]
        have := vi.2; omega
      refine ev_ite (fun _ => ?_) (fun z => absurd lx z)
      refine ev_gg ((by rw [hv]; exact vi)) ?_
      exact ev_ret ⟨rfl, fun _ => by rw [gI_a]; exact hv, cls_600 (l := ((Ds.take (Ds.length - 1)), pg, pp, r, L, Q, C)) hq, hx_600 hx⟩
    · have h1' : RfS S1 stT Ds pg pp r L Q C S1 := h1
      refine ev_mono (ev_hi (fun n => (kr_X12_undo n).1 _ _) (r_undo (d := D) (h := h1') (hd := by omega) )) (fun b2 S2 q => ?_)
      obtain ⟨q, hx⟩ := q
      rw [if_pos c1] at q
      obtain ⟨hb2, ht, hq⟩ := q
      exact ⟨ht, fun _ => hb2, hq, by rw [(hx 600 (by decide)).1]⟩
  · skip
    refine ⟨1, 0, (Ds, pg, pp, r, L, Q, C), by decide, fun z => absurd z (by decide), ?_, fun S1 h1 => ?_⟩
    · unfold f_L_undo
      dsimp only
      refine ev_gg (by first | omega | (constructor <;> omega)) ?_
      refine ev_gc (ev_hi (fun n => (kh_X11_undo n) _ _) (c_undo (d := D - 1) (h := hC) )) (fun x1 S1 q => ?_)
      obtain ⟨q, hx⟩ := q
      rw [if_neg c1] at q
      obtain ⟨hv, hq0⟩ := q
      have hq : ClS stT Ds pg pp r L Q C S1 := by first | exact hq0 | (rw [hq0]; exact hC)
      refine ev_ite (fun z => by omega) (fun _ => ?_)
      refine ev_ite (fun _ => ?_) (fun z => absurd hv z)
      exact ev_ret ⟨rfl, fun z => absurd z (by decide), hq, hx_of hx⟩
    · have h1' : RfS S1 stT Ds pg pp r L Q C S1 := h1
      refine ev_mono (ev_hi (fun n => (kr_X12_undo n).1 _ _) (r_undo (d := D) (h := h1') (hd := by omega) )) (fun b2 S2 q => ?_)
      obtain ⟨q, hx⟩ := q
      rw [if_neg c1] at q
      obtain ⟨ht, hq⟩ := q
      exact ⟨ht, fun z => absurd z (by decide), hq, by rw [(hx 600 (by decide)).1]⟩
theorem pr_select {a : Int} (hD : 300 ≤ D) (hC : ClS stT Ds pg pp r L Q C S) (hR : RfS S stT Ds pg pp r L Q C S) (ha : inr a) : PR inr (fun n => f_L_select n D 0 S [a]) (fun n S1 => f_X12_select n D 0 S1 [a]) (Ds, pg, pp, r, L, Q, C) S := by
  have ex := ex_e
  have n4 := hC.1.2.1
  by_cases c1 : hasD Ds a
  · skip
    by_cases c2 : isP pg
    · skip
      have vi : inr ((seekL pg (atD' Ds a)).length : Int) := by
        obtain ⟨x0, S2, q, _⟩ := r_select (d := D) (h := hR) (hd := by omega) (ha := ha)
        rw [if_pos c1, if_pos c2] at q
        have b := q.2.2.2.2.2.2.1.2.1
        constructor <;> omega
      refine ⟨0, ((seekL pg (atD' Ds a)).length : Int), (Ds, [], pp, r, (seekL pg (atD' Ds a)), Q, C), by decide, fun _ => vi, ?_, fun S1 h1 => ?_⟩
      · unfold f_L_select
        dsimp only
        refine ev_gg (by first | omega | (constructor <;> omega)) ?_
        refine ev_gc (ev_hi (fun n => (kh_X11_select n) _ _ _) (c_select (d := D - 1) (h := hC) (hd := by omega) (ha := ha) (hpg := (rf_pp hR).2.2))) (fun x1 S1 q => ?_)
        obtain ⟨q, hx⟩ := q
        rw [if_pos c1, if_pos c2] at q
        obtain ⟨hv, hq⟩ := q
        have lx : x1 < exB := by
          rw [hv]
          have := vi.2; omega
        refine ev_ite (fun _ => ?_) (fun z => absurd lx z)
        refine ev_gg ((by rw [hv]; exact vi)) ?_
        exact ev_ret ⟨rfl, fun _ => by rw [gI_a]; exact hv, cls_600 (l := (Ds, [], pp, r, (seekL pg (atD' Ds a)), Q, C)) hq, hx_600 hx⟩
      · have h1' : RfS S1 stT Ds pg pp r L Q C S1 := h1
        refine ev_mono (ev_hi (fun n => (kr_X12_select n).1 _ _ _) (r_select (d := D) (h := h1') (hd := by omega) (ha := ha))) (fun b2 S2 q => ?_)
        obtain ⟨q, hx⟩ := q
        rw [if_pos c1, if_pos c2] at q
        obtain ⟨hb2, ht, hq⟩ := q
        exact ⟨ht, fun _ => hb2, hq, by rw [(hx 600 (by decide)).1]⟩
    · skip
      refine ⟨2, 0, (Ds, pg, pp, r, L, Q, C), by decide, fun z => absurd z (by decide), ?_, fun S1 h1 => ?_⟩
      · unfold f_L_select
        dsimp only
        refine ev_gg (by first | omega | (constructor <;> omega)) ?_
        refine ev_gc (ev_hi (fun n => (kh_X11_select n) _ _ _) (c_select (d := D - 1) (h := hC) (hd := by omega) (ha := ha) (hpg := (rf_pp hR).2.2))) (fun x1 S1 q => ?_)
        obtain ⟨q, hx⟩ := q
        rw [if_pos c1, if_neg c2] at q
        obtain ⟨hv, hq0⟩ := q
        have hq : ClS stT Ds pg pp r L Q C S1 := by first | exact hq0 | (rw [hq0]; exact hC)
        refine ev_ite (fun z => by omega) (fun _ => ?_)
        refine ev_ite (fun z => by omega) (fun _ => ?_)
        refine ev_ite (fun _ => ?_) (fun z => absurd hv z)
        exact ev_ret ⟨rfl, fun z => absurd z (by decide), hq, hx_of hx⟩
      · have h1' : RfS S1 stT Ds pg pp r L Q C S1 := h1
        refine ev_mono (ev_hi (fun n => (kr_X12_select n).1 _ _ _) (r_select (d := D) (h := h1') (hd := by omega) (ha := ha))) (fun b2 S2 q => ?_)
        obtain ⟨q, hx⟩ := q
        rw [if_pos c1, if_neg c2] at q
        obtain ⟨ht, hq⟩ := q
        exact ⟨ht, fun z => absurd z (by decide), hq, by rw [(hx 600 (by decide)).1]⟩
  · skip
    refine ⟨1, 0, (Ds, pg, pp, r, L, Q, C), by decide, fun z => absurd z (by decide), ?_, fun S1 h1 => ?_⟩
    · unfold f_L_select
      dsimp only
      refine ev_gg (by first | omega | (constructor <;> omega)) ?_
      refine ev_gc (ev_hi (fun n => (kh_X11_select n) _ _ _) (c_select (d := D - 1) (h := hC) (hd := by omega) (ha := ha) (hpg := (rf_pp hR).2.2))) (fun x1 S1 q => ?_)
      obtain ⟨q, hx⟩ := q
      rw [if_neg c1] at q
      obtain ⟨hv, hq0⟩ := q
      have hq : ClS stT Ds pg pp r L Q C S1 := by first | exact hq0 | (rw [hq0]; exact hC)
      refine ev_ite (fun z => by omega) (fun _ => ?_)
      refine ev_ite (fun _ => ?_) (fun z => absurd hv z)
      exact ev_ret ⟨rfl, fun z => absurd z (by decide), hq, hx_of hx⟩
    · have h1' : RfS S1 stT Ds pg pp r L Q C S1 := h1
      refine ev_mono (ev_hi (fun n => (kr_X12_select n).1 _ _ _) (r_select (d := D) (h := h1') (hd := by omega) (ha := ha))) (fun b2 S2 q => ?_)
      obtain ⟨q, hx⟩ := q
      rw [if_neg c1] at q
      obtain ⟨ht, hq⟩ := q
      exact ⟨ht, fun z => absurd z (by decide), hq, by rw [(hx 600 (by decide)).1]⟩
theorem pr_find {k : Int} (hD : 300 ≤ D) (hC : ClS stT Ds pg pp r L Q C S) (hR : RfS S stT Ds pg pp r L Q C S) (hk : inr k) : PR inr (fun n => f_L_find n D 0 S [k]) (fun n S1 => f_X12_find n D 0 S1 [k]) (Ds, pg, pp, r, L, Q, C) S := by
  have ex := ex_e
  have n4 := hC.1.2.1
  by_cases c1 : 0 ≤ k ∧ k < (L.length : Int)
  · skip
    have vi : inr ((L.getD k.toNat 0 : Nat) : Int) := by
      have g := hR.2.2.2.2.1.2.2.2 (L.getD k.toNat 0) (by
        rw [List.getD_eq_getElem?_getD, List.getElem?_eq_getElem (show k.toNat < L.length by omega)]
        exact List.getElem_mem _)
      constructor <;> omega
    refine ⟨0, ((L.getD k.toNat 0 : Nat) : Int), (Ds, pg, pp, r, L, Q, C), by decide, fun _ => vi, ?_, fun S1 h1 => ?_⟩
    · unfold f_L_find
      dsimp only
      refine ev_gg (by first | omega | (constructor <;> omega)) ?_
      refine ev_gc (ev_hi (fun n => (kh_X11_find n) _ _ _) (c_find (d := D - 1) (h := hC) (hd := by omega) (hk := hk))) (fun x1 S1 q => ?_)
      obtain ⟨q, hx⟩ := q
      obtain ⟨hv, hS⟩ := q
      rw [if_pos c1] at hv
      have hq : ClS stT Ds pg pp r L Q C S1 := by rw [hS]; exact hC
      have lx : x1 < exB := by
        rw [hv]
        have := vi.2; omega
      refine ev_ite (fun _ => ?_) (fun z => absurd lx z)
      refine ev_gg ((by rw [hv]; exact vi)) ?_
      exact ev_ret ⟨rfl, fun _ => by rw [gI_a]; exact hv, cls_600 (l := (Ds, pg, pp, r, L, Q, C)) hq, hx_600 hx⟩
    · have h1' : RfS S1 stT Ds pg pp r L Q C S1 := h1
      refine ev_mono (ev_hi (fun n => (kr_X12_find n) _ _ _) (r_find (d := D) (h := h1') (hd := by omega) (hk := hk))) (fun b2 S2 q => ?_)
      obtain ⟨q, hx⟩ := q
      obtain ⟨q, hq⟩ := q
      rw [if_pos c1] at q
      obtain ⟨hb2, ht⟩ := q
      exact ⟨ht, fun _ => hb2, hq, by rw [(hx 600 (by decide)).1]⟩
  · skip
    refine ⟨1, 0, (Ds, pg, pp, r, L, Q, C), by decide, fun z => absurd z (by decide), ?_, fun S1 h1 => ?_⟩
    · unfold f_L_find
      dsimp only
      refine ev_gg (by first | omega | (constructor <;> omega)) ?_
      refine ev_gc (ev_hi (fun n => (kh_X11_find n) _ _ _) (c_find (d := D - 1) (h := hC) (hd := by omega) (hk := hk))) (fun x1 S1 q => ?_)
      obtain ⟨q, hx⟩ := q
      obtain ⟨hv, hS⟩ := q
      rw [if_neg c1] at hv
      have hq : ClS stT Ds pg pp r L Q C S1 := by rw [hS]; exact hC
      refine ev_ite (fun z => by omega) (fun _ => ?_)
      refine ev_ite (fun _ => ?_) (fun z => absurd hv z)
      exact ev_ret ⟨rfl, fun z => absurd z (by decide), hq, hx_of hx⟩
    · have h1' : RfS S1 stT Ds pg pp r L Q C S1 := h1
      refine ev_mono (ev_hi (fun n => (kr_X12_find n) _ _ _) (r_find (d := D) (h := h1') (hd := by omega) (hk := hk))) (fun b2 S2 q => ?_)
      obtain ⟨q, hx⟩ := q
      obtain ⟨q, hq⟩ := q
      rw [if_neg c1] at q
      have ht := q
      exact ⟨ht, fun z => absurd z (by decide), hq, by rw [(hx 600 (by decide)).1]⟩
theorem pr_put {a b : Int} (hD : 300 ≤ D) (hC : ClS stT Ds pg pp r L Q C S) (hR : RfS S stT Ds pg pp r L Q C S) (ha : inr a) (hb : inr b) : PR inr (fun n => f_L_put n D 0 S [a, b]) (fun n S1 => f_X12_put n D 0 S1 [a, b]) (Ds, pg, pp, r, L, Q, C) S := by
  have ex := ex_e
  have n4 := hC.1.2.1
  by_cases c1 : hasD Ds a ∧ hasD Ds b
  · skip
    by_cases c2 : Ds.length < 40 ∧ isP pg ∧ (lyP pg (atD' Ds a) (atD' Ds b)).isSome = true
    · skip
      have vi : inr (Ds.length : Int) := by constructor <;> omega
      refine ⟨0, (Ds.length : Int), ((Ds ++ [(lyP pg (atD' Ds a) (atD' Ds b)).getD []]), [], pp, r, L, Q, C), by decide, fun _ => vi, ?_, fun S1 h1 => ?_⟩
      · unfold f_L_put
        dsimp only
        refine ev_gg (by first | omega | (constructor <;> omega)) ?_
        refine ev_gc (ev_hi (fun n => (kh_X11_put n) _ _ _ _) (c_put (d := D - 1) (h := hC) (hd := by omega) (ha := ha) (hb := hb) (hpg := (rf_pp hR).2.2))) (fun x1 S1 q => ?_)
        obtain ⟨q, hx⟩ := q
        rw [if_pos c1, if_pos c2] at q
        obtain ⟨hv, hq⟩ := q
        have lx : x1 < exB := by
          rw [hv]
          have := vi.2; omega
        refine ev_ite (fun _ => ?_) (fun z => absurd lx z)
        refine ev_gg ((by rw [hv]; exact vi)) ?_
        exact ev_ret ⟨rfl, fun _ => by rw [gI_a]; exact hv, cls_600 (l := ((Ds ++ [(lyP pg (atD' Ds a) (atD' Ds b)).getD []]), [], pp, r, L, Q, C)) hq, hx_600 hx⟩
      · have h1' : RfS S1 stT Ds pg pp r L Q C S1 := h1
        refine ev_mono (ev_hi (fun n => (kr_X12_put n).1 _ _ _ _) (r_put (d := D) (h := h1') (hd := by omega) (ha := ha) (hb := hb))) (fun b2 S2 q => ?_)
        obtain ⟨q, hx⟩ := q
        rw [if_pos c1, if_pos c2] at q
        obtain ⟨hb2, ht, hq⟩ := q
        exact ⟨ht, fun _ => hb2, hq, by rw [(hx 600 (by decide)).1]⟩
    · skip
      refine ⟨2, 0, (Ds, pg, pp, r, L, Q, C), by decide, fun z => absurd z (by decide), ?_, fun S1 h1 => ?_⟩
      · unfold f_L_put
        dsimp only
        refine ev_gg (by first | omega | (constructor <;> omega)) ?_
        refine ev_gc (ev_hi (fun n => (kh_X11_put n) _ _ _ _) (c_put (d := D - 1) (h := hC) (hd := by omega) (ha := ha) (hb := hb) (hpg := (rf_pp hR).2.2))) (fun x1 S1 q => ?_)
        obtain ⟨q, hx⟩ := q
        rw [if_pos c1, if_neg c2] at q
        obtain ⟨hv, hq0⟩ := q
        have hq : ClS stT Ds pg pp r L Q C S1 := by first | exact hq0 | (rw [hq0]; exact hC)
        refine ev_ite (fun z => by omega) (fun _ => ?_)
        refine ev_ite (fun z => by omega) (fun _ => ?_)
        refine ev_ite (fun _ => ?_) (fun z => absurd hv z)
        exact ev_ret ⟨rfl, fun z => absurd z (by decide), hq, hx_of hx⟩
      · have h1' : RfS S1 stT Ds pg pp r L Q C S1 := h1
        refine ev_mono (ev_hi (fun n => (kr_X12_put n).1 _ _ _ _) (r_put (d := D) (h := h1') (hd := by omega) (ha := ha) (hb := hb))) (fun b2 S2 q => ?_)
        obtain ⟨q, hx⟩ := q
        rw [if_pos c1, if_neg c2] at q
        obtain ⟨ht, hq⟩ := q
        exact ⟨ht, fun z => absurd z (by decide), hq, by rw [(hx 600 (by decide)).1]⟩
  · skip
    refine ⟨1, 0, (Ds, pg, pp, r, L, Q, C), by decide, fun z => absurd z (by decide), ?_, fun S1 h1 => ?_⟩
    · unfold f_L_put
      dsimp only
      refine ev_gg (by first | omega | (constructor <;> omega)) ?_
      refine ev_gc (ev_hi (fun n => (kh_X11_put n) _ _ _ _) (c_put (d := D - 1) (h := hC) (hd := by omega) (ha := ha) (hb := hb) (hpg := (rf_pp hR).2.2))) (fun x1 S1 q => ?_)
      obtain ⟨q, hx⟩ := q
      rw [if_neg c1] at q
      obtain ⟨hv, hq0⟩ := q
      have hq : ClS stT Ds pg pp r L Q C S1 := by first | exact hq0 | (rw [hq0]; exact hC)
      refine ev_ite (fun z => by omega) (fun _ => ?_)
      refine ev_ite (fun _ => ?_) (fun z => absurd hv z)
      exact ev_ret ⟨rfl, fun z => absurd z (by decide), hq, hx_of hx⟩
    · have h1' : RfS S1 stT Ds pg pp r L Q C S1 := h1
      refine ev_mono (ev_hi (fun n => (kr_X12_put n).1 _ _ _ _) (r_put (d := D) (h := h1') (hd := by omega) (ha := ha) (hb := hb))) (fun b2 S2 q => ?_)
      obtain ⟨q, hx⟩ := q
      rw [if_neg c1] at q
      obtain ⟨ht, hq⟩ := q
      exact ⟨ht, fun z => absurd z (by decide), hq, by rw [(hx 600 (by decide)).1]⟩
theorem pr_cut {a : Int} (hD : 300 ≤ D) (hC : ClS stT Ds pg pp r L Q C S) (hR : RfS S stT Ds pg pp r L Q C S) (ha : inr a) : PR inr (fun n => f_L_cut n D 0 S [a]) (fun n S1 => f_X12_cut n D 0 S1 [a]) (Ds, pg, pp, r, L, Q, C) S := by
  have ex := ex_e
  have n4 := hC.1.2.1
  by_cases c1 : hasD Ds a
  · skip
    by_cases c2 : Ds.length < 40 ∧ isP pg ∧ (lyC pg (atD' Ds a)).isSome = true
    · skip
      have vi : inr (Ds.length : Int) := by constructor <;> omega
      refine ⟨0, (Ds.length : Int), ((Ds ++ [(lyC pg (atD' Ds a)).getD []]), [], pp, r, L, Q, C), by decide, fun _ => vi, ?_, fun S1 h1 => ?_⟩
      · unfold f_L_cut
        dsimp only
        refine ev_gg (by first | omega | (constructor <;> omega)) ?_
        refine ev_gc (ev_hi (fun n => (kh_X11_cut n) _ _ _) (c_cut (d := D - 1) (h := hC) (hd := by omega) (ha := ha) (hpg := (rf_pp hR).2.2))) (fun x1 S1 q => ?_)
        obtain ⟨q, hx⟩ := q
        rw [if_pos c1, if_pos c2] at q
        obtain ⟨hv, hq⟩ := q
        have lx : x1 < exB := by
          rw [hv]
          have := vi.2; omega
        refine ev_ite (fun _ => ?_) (fun z => absurd lx z)
        refine ev_gg ((by rw [hv]; exact vi)) ?_
        exact ev_ret ⟨rfl, fun _ => by rw [gI_a]; exact hv, cls_600 (l := ((Ds ++ [(lyC pg (atD' Ds a)).getD []]), [], pp, r, L, Q, C)) hq, hx_600 hx⟩
      · have h1' : RfS S1 stT Ds pg pp r L Q C S1 := h1
        refine ev_mono (ev_hi (fun n => (kr_X12_cut n).1 _ _ _) (r_cut (d := D) (h := h1') (hd := by omega) (ha := ha))) (fun b2 S2 q => ?_)
        obtain ⟨q, hx⟩ := q
        rw [if_pos c1, if_pos c2] at q
        obtain ⟨hb2, ht, hq⟩ := q
        exact ⟨ht, fun _ => hb2, hq, by rw [(hx 600 (by decide)).1]⟩
    · skip
      refine ⟨2, 0, (Ds, pg, pp, r, L, Q, C), by decide, fun z => absurd z (by decide), ?_, fun S1 h1 => ?_⟩
      · unfold f_L_cut
        dsimp only
        refine ev_gg (by first | omega | (constructor <;> omega)) ?_
        refine ev_gc (ev_hi (fun n => (kh_X11_cut n) _ _ _) (c_cut (d := D - 1) (h := hC) (hd := by omega) (ha := ha) (hpg := (rf_pp hR).2.2))) (fun x1 S1 q => ?_)
        obtain ⟨q, hx⟩ := q
        rw [if_pos c1, if_neg c2] at q
        obtain ⟨hv, hq0⟩ := q
        have hq : ClS stT Ds pg pp r L Q C S1 := by first | exact hq0 | (rw [hq0]; exact hC)
        refine ev_ite (fun z => by omega) (fun _ => ?_)
        refine ev_ite (fun z => by omega) (fun _ => ?_)
        refine ev_ite (fun _ => ?_) (fun z => absurd hv z)
        exact ev_ret ⟨rfl, fun z => absurd z (by decide), hq, hx_of hx⟩
      · have h1' : RfS S1 stT Ds pg pp r L Q C S1 := h1
        refine ev_mono (ev_hi (fun n => (kr_X12_cut n).1 _ _ _) (r_cut (d := D) (h := h1') (hd := by omega) (ha := ha))) (fun b2 S2 q => ?_)
        obtain ⟨q, hx⟩ := q
        rw [if_pos c1, if_neg c2] at q
        obtain ⟨ht, hq⟩ := q
        exact ⟨ht, fun z => absurd z (by decide), hq, by rw [(hx 600 (by decide)).1]⟩
  · skip
    refine ⟨1, 0, (Ds, pg, pp, r, L, Q, C), by decide, fun z => absurd z (by decide), ?_, fun S1 h1 => ?_⟩
    · unfold f_L_cut
      dsimp only
      refine ev_gg (by first | omega | (constructor <;> omega)) ?_
      refine ev_gc (ev_hi (fun n => (kh_X11_cut n) _ _ _) (c_cut (d := D - 1) (h := hC) (hd := by omega) (ha := ha) (hpg := (rf_pp hR).2.2))) (fun x1 S1 q => ?_)
      obtain ⟨q, hx⟩ := q
      rw [if_neg c1] at q
      obtain ⟨hv, hq0⟩ := q
      have hq : ClS stT Ds pg pp r L Q C S1 := by first | exact hq0 | (rw [hq0]; exact hC)
      refine ev_ite (fun z => by omega) (fun _ => ?_)
      refine ev_ite (fun _ => ?_) (fun z => absurd hv z)
      exact ev_ret ⟨rfl, fun z => absurd z (by decide), hq, hx_of hx⟩
    · have h1' : RfS S1 stT Ds pg pp r L Q C S1 := h1
      refine ev_mono (ev_hi (fun n => (kr_X12_cut n).1 _ _ _) (r_cut (d := D) (h := h1') (hd := by omega) (ha := ha))) (fun b2 S2 q => ?_)
      obtain ⟨q, hx⟩ := q
      rw [if_neg c1] at q
      obtain ⟨ht, hq⟩ := q
      exact ⟨ht, fun z => absurd z (by decide), hq, by rw [(hx 600 (by decide)).1]⟩
theorem pr_join {a b c : Int} (hD : 300 ≤ D) (hC : ClS stT Ds pg pp r L Q C S) (hR : RfS S stT Ds pg pp r L Q C S) (ha : inr a) (hb : inr b) (hc : inr c) : PR inr (fun n => f_L_join n D 0 S [a, b, c]) (fun n S1 => f_X12_join n D 0 S1 [a, b, c]) (Ds, pg, pp, r, L, Q, C) S := by
  have ex := ex_e
  have n4 := hC.1.2.1
  by_cases c1 : hasD Ds a ∧ hasD Ds b ∧ hasD Ds c
  · skip
    by_cases c2 : (jnD (atD' Ds a) (atD' Ds b) (atD' Ds c)).2 = []
    · skip
      by_cases c3 : pOK (jnD (atD' Ds a) (atD' Ds b) (atD' Ds c)).1.flatten ∧ Ds.length < 40
      · skip
        have vi : inr (Ds.length : Int) := by constructor <;> omega
        refine ⟨0, (Ds.length : Int), ((Ds ++ [(jnD (atD' Ds a) (atD' Ds b) (atD' Ds c)).1.flatten]), pg, pp, r, L, [], C), by decide, fun _ => vi, ?_, fun S1 h1 => ?_⟩
        · unfold f_L_join
          dsimp only
          refine ev_gg (by first | omega | (constructor <;> omega)) ?_
          refine ev_gc (ev_hi (fun n => (kh_X11_join n) _ _ _ _ _) (c_join (d := D - 1) (h := hC) (hd := by omega) (ha := ha) (hb := hb) (hc := hc))) (fun x1 S1 q => ?_)
          obtain ⟨q, hx⟩ := q
          rw [if_pos c1, if_pos c2, if_pos c3] at q
          obtain ⟨hv, hq⟩ := q
          have lx : x1 < exB := by
            rw [hv]
            have := vi.2; omega
          refine ev_ite (fun _ => ?_) (fun z => absurd lx z)
          refine ev_gg ((by rw [hv]; exact vi)) ?_
          exact ev_ret ⟨rfl, fun _ => by rw [gI_a]; exact hv, cls_600 (l := ((Ds ++ [(jnD (atD' Ds a) (atD' Ds b) (atD' Ds c)).1.flatten]), pg, pp, r, L, [], C)) hq, hx_600 hx⟩
        · have h1' : RfS S1 stT Ds pg pp r L Q C S1 := h1
          refine ev_mono (ev_hi (fun n => (kr_X12_join n).1 _ _ _ _ _) (r_join (d := D) (h := h1') (hd := by omega) (ha := ha) (hb := hb) (hc := hc))) (fun b2 S2 q => ?_)
          obtain ⟨q, hx⟩ := q
          rw [if_pos c1, if_pos c2, if_pos c3] at q
          obtain ⟨hb2, ht, hq⟩ := q
          exact ⟨ht, fun _ => hb2, hq, by rw [(hx 600 (by decide)).1]⟩
      · skip
        refine ⟨2, 0, (Ds, pg, pp, r, L, Q, C), by decide, fun z => absurd z (by decide), ?_, fun S1 h1 => ?_⟩
        · unfold f_L_join
          dsimp only
          refine ev_gg (by first | omega | (constructor <;> omega)) ?_
          refine ev_gc (ev_hi (fun n => (kh_X11_join n) _ _ _ _ _) (c_join (d := D - 1) (h := hC) (hd := by omega) (ha := ha) (hb := hb) (hc := hc))) (fun x1 S1 q => ?_)
          obtain ⟨q, hx⟩ := q
          rw [if_pos c1, if_pos c2, if_neg c3] at q
          obtain ⟨hv, hq0⟩ := q
          have hq : ClS stT Ds pg pp r L Q C S1 := by first | exact hq0 | (rw [hq0]; exact hC)
          refine ev_ite (fun z => by omega) (fun _ => ?_)
          refine ev_ite (fun z => by omega) (fun _ => ?_)
          refine ev_ite (fun _ => ?_) (fun z => absurd hv z)
          exact ev_ret ⟨rfl, fun z => absurd z (by decide), hq, hx_of hx⟩
        · have h1' : RfS S1 stT Ds pg pp r L Q C S1 := h1
          refine ev_mono (ev_hi (fun n => (kr_X12_join n).1 _ _ _ _ _) (r_join (d := D) (h := h1') (hd := by omega) (ha := ha) (hb := hb) (hc := hc))) (fun b2 S2 q => ?_)
          obtain ⟨q, hx⟩ := q
          rw [if_pos c1, if_pos c2, if_neg c3] at q
          obtain ⟨ht, hq⟩ := q
          exact ⟨ht, fun z => absurd z (by decide), hq, by rw [(hx 600 (by decide)).1]⟩
    · skip
      have vi : inr (-1) := by decide
      refine ⟨0, (-1), (Ds, pg, pp, r, L, (jnD (atD' Ds a) (atD' Ds b) (atD' Ds c)).2, C), by decide, fun _ => vi, ?_, fun S1 h1 => ?_⟩
      · unfold f_L_join
        dsimp only
        refine ev_gg (by first | omega | (constructor <;> omega)) ?_
        refine ev_gc (ev_hi (fun n => (kh_X11_join n) _ _ _ _ _) (c_join (d := D - 1) (h := hC) (hd := by omega) (ha := ha) (hb := hb) (hc := hc))) (fun x1 S1 q => ?_)
        obtain ⟨q, hx⟩ := q
        rw [if_pos c1, if_neg c2] at q
        obtain ⟨hv, hq⟩ := q
        have lx : x1 < exB := by
          rw [hv]
          have := vi.2; omega
        refine ev_ite (fun _ => ?_) (fun z => absurd lx z)
        refine ev_gg ((by rw [hv]; exact vi)) ?_
        exact ev_ret ⟨rfl, fun _ => by rw [gI_a]; exact hv, cls_600 (l := (Ds, pg, pp, r, L, (jnD (atD' Ds a) (atD' Ds b) (atD' Ds c)).2, C)) hq, hx_600 hx⟩
      · have h1' : RfS S1 stT Ds pg pp r L Q C S1 := h1
        refine ev_mono (ev_hi (fun n => (kr_X12_join n).1 _ _ _ _ _) (r_join (d := D) (h := h1') (hd := by omega) (ha := ha) (hb := hb) (hc := hc))) (fun b2 S2 q => ?_)
        obtain ⟨q, hx⟩ := q
        rw [if_pos c1, if_neg c2] at q
        obtain ⟨hb2, ht, hq⟩ := q
        exact ⟨ht, fun _ => hb2, hq, by rw [(hx 600 (by decide)).1]⟩
  · skip
    refine ⟨1, 0, (Ds, pg, pp, r, L, Q, C), by decide, fun z => absurd z (by decide), ?_, fun S1 h1 => ?_⟩
    · unfold f_L_join
      dsimp only
      refine ev_gg (by first | omega | (constructor <;> omega)) ?_
      refine ev_gc (ev_hi (fun n => (kh_X11_join n) _ _ _ _ _) (c_join (d := D - 1) (h := hC) (hd := by omega) (ha := ha) (hb := hb) (hc := hc))) (fun x1 S1 q => ?_)
      obtain ⟨q, hx⟩ := q
      rw [if_neg c1] at q
      obtain ⟨hv, hq0⟩ := q
      have hq : ClS stT Ds pg pp r L Q C S1 := by first | exact hq0 | (rw [hq0]; exact hC)
      refine ev_ite (fun z => by omega) (fun _ => ?_)
      refine ev_ite (fun _ => ?_) (fun z => absurd hv z)
      exact ev_ret ⟨rfl, fun z => absurd z (by decide), hq, hx_of hx⟩
    · have h1' : RfS S1 stT Ds pg pp r L Q C S1 := h1
      refine ev_mono (ev_hi (fun n => (kr_X12_join n).1 _ _ _ _ _) (r_join (d := D) (h := h1') (hd := by omega) (ha := ha) (hb := hb) (hc := hc))) (fun b2 S2 q => ?_)
      obtain ⟨q, hx⟩ := q
      rw [if_neg c1] at q
      obtain ⟨ht, hq⟩ := q
      exact ⟨ht, fun z => absurd z (by decide), hq, by rw [(hx 600 (by decide)).1]⟩
theorem pr_quarrel {k : Int} (hD : 300 ≤ D) (hC : ClS stT Ds pg pp r L Q C S) (hR : RfS S stT Ds pg pp r L Q C S) (hk : inr k) : PR inr (fun n => f_L_quarrel n D 0 S [k]) (fun n S1 => f_X12_quarrel n D 0 S1 [k]) (Ds, pg, pp, r, L, Q, C) S := by
  have ex := ex_e
  have n4 := hC.1.2.1
  by_cases c1 : 0 ≤ k ∧ k < (Q.length : Int)
  · skip
    have vi : inr ((Q.getD k.toNat []).length : Int) := by
      obtain ⟨x0, S2, q, _⟩ := r_quarrel (d := D) (h := hR) (hd := by omega) (hk := hk)
      rw [if_pos c1] at q
      exact (rf_pp q.2.2).1
    refine ⟨0, ((Q.getD k.toNat []).length : Int), (Ds, pg, (Q.getD k.toNat []), r, L, Q, C), by decide, fun _ => vi, ?_, fun S1 h1 => ?_⟩
    · unfold f_L_quarrel
      dsimp only
      refine ev_gg (by first | omega | (constructor <;> omega)) ?_
      refine ev_gc (ev_hi (fun n => (kh_X11_quarrel n) _ _ _) (c_quarrel (d := D - 1) (h := hC) (hd := by omega) (hk := hk))) (fun x1 S1 q => ?_)
      obtain ⟨q, hx⟩ := q
      rw [if_pos c1] at q
      obtain ⟨hv, hq⟩ := q
      have lx : x1 < exB := by
        rw [hv]
        have := vi.2; omega
      refine ev_ite (fun _ => ?_) (fun z => absurd lx z)
      refine ev_gg ((by rw [hv]; exact vi)) ?_
      exact ev_ret ⟨rfl, fun _ => by rw [gI_a]; exact hv, cls_600 (l := (Ds, pg, (Q.getD k.toNat []), r, L, Q, C)) hq, hx_600 hx⟩
    · have h1' : RfS S1 stT Ds pg pp r L Q C S1 := h1
      refine ev_mono (ev_hi (fun n => (kr_X12_quarrel n).1 _ _ _) (r_quarrel (d := D) (h := h1') (hd := by omega) (hk := hk))) (fun b2 S2 q => ?_)
      obtain ⟨q, hx⟩ := q
      rw [if_pos c1] at q
      obtain ⟨hb2, ht, hq⟩ := q
      exact ⟨ht, fun _ => hb2, hq, by rw [(hx 600 (by decide)).1]⟩
  · skip
    refine ⟨1, 0, (Ds, pg, pp, r, L, Q, C), by decide, fun z => absurd z (by decide), ?_, fun S1 h1 => ?_⟩
    · unfold f_L_quarrel
      dsimp only
      refine ev_gg (by first | omega | (constructor <;> omega)) ?_
      refine ev_gc (ev_hi (fun n => (kh_X11_quarrel n) _ _ _) (c_quarrel (d := D - 1) (h := hC) (hd := by omega) (hk := hk))) (fun x1 S1 q => ?_)
      obtain ⟨q, hx⟩ := q
      rw [if_neg c1] at q
      obtain ⟨hv, hq0⟩ := q
      have hq : ClS stT Ds pg pp r L Q C S1 := by first | exact hq0 | (rw [hq0]; exact hC)
      refine ev_ite (fun z => by omega) (fun _ => ?_)
      refine ev_ite (fun _ => ?_) (fun z => absurd hv z)
      exact ev_ret ⟨rfl, fun z => absurd z (by decide), hq, hx_of hx⟩
    · have h1' : RfS S1 stT Ds pg pp r L Q C S1 := h1
      refine ev_mono (ev_hi (fun n => (kr_X12_quarrel n).1 _ _ _) (r_quarrel (d := D) (h := h1') (hd := by omega) (hk := hk))) (fun b2 S2 q => ?_)
      obtain ⟨q, hx⟩ := q
      rw [if_neg c1] at q
      obtain ⟨ht, hq⟩ := q
      exact ⟨ht, fun z => absurd z (by decide), hq, by rw [(hx 600 (by decide)).1]⟩
end PRS
