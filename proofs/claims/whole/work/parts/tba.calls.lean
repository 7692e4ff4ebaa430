/-! CALLS of both (write, paper, rule, print, node, tell, compare, digest, take) -/
section PRS
variable {S : GS} {Ds : List (List ND)} {pg pp : List Int} {r : Int} {L : List Nat} {Q : List (List Int)} {C : List (Int × Int)} {D : Nat}
theorem pr_write {nn a : Int} (hD : 300 ≤ D) (hC : ClS stT Ds pg pp r L Q C S) (hR : RfS S stT Ds pg pp r L Q C S) (hn : inr nn) (ha : inl a) : PR inr (fun n => f_L_write n D 0 S [nn, a]) (fun n S1 => f_X12_write n D 0 S1 [nn, a]) (Ds, pg, pp, r, L, Q, C) S := by
  have ex := ex_e
  have n4 := hC.1.2.1
  by_cases c1 : 1 ≤ nn ∧ nn ≤ 8 ∧ asL nn.toNat a = 1
  · skip
    by_cases c2 : (pg.length : Int) + nn ≤ 400
    · skip
      have vi : inr ((pg.length : Int) + nn) := ⟨by omega, by omega⟩
      refine ⟨0, ((pg.length : Int) + nn), (Ds, (pg ++ wrD a nn.toNat), pp, r, L, Q, C), by decide, fun _ => vi, ?_, fun S1 h1 => ?_⟩
      · unfold f_L_write
        dsimp only
        refine ev_gg (by first | omega | (constructor <;> omega)) ?_
        refine ev_gc (ev_hi (fun n => (kh_X11_write n).1 _ _ _ _) (c_write (d := D - 1) (h := hC) (hd := by omega) (hn := hn))) (fun x1 S1 q => ?_)
        obtain ⟨q, hx⟩ := q
        rw [if_pos c1, if_pos c2] at q
        obtain ⟨hv, hq⟩ := q
        have lx : x1 < exB := by
          rw [hv]
          have := vi.2; omega
        refine ev_ite (fun _ => ?_) (fun z => absurd lx z)
        refine ev_gg ((by rw [hv]; exact vi)) ?_
        exact ev_ret ⟨rfl, fun _ => by rw [gI_a]; exact hv, cls_600 (l := (Ds, (pg ++ wrD a nn.toNat), pp, r, L, Q, C)) hq, hx_600 hx⟩
      · have h1' : RfS S1 stT Ds pg pp r L Q C S1 := h1
        refine ev_mono (ev_hi (fun n => (kr_X12_write n).1 _ _ _ _) (r_write (d := D) (h := h1') (hd := by omega) (hn := hn) (ha := ha))) (fun b2 S2 q => ?_)
        obtain ⟨q, hx⟩ := q
        rw [if_pos c1, if_pos c2] at q
        obtain ⟨hb2, ht, hq⟩ := q
        exact ⟨ht, fun _ => hb2, hq, by rw [(hx 600 (by decide)).1]⟩
    · skip
      refine ⟨2, 0, (Ds, pg, pp, r, L, Q, C), by decide, fun z => absurd z (by decide), ?_, fun S1 h1 => ?_⟩
      · unfold f_L_write
        dsimp only
        refine ev_gg (by first | omega | (constructor <;> omega)) ?_
        refine ev_gc (ev_hi (fun n => (kh_X11_write n).1 _ _ _ _) (c_write (d := D - 1) (h := hC) (hd := by omega) (hn := hn))) (fun x1 S1 q => ?_)
        obtain ⟨q, hx⟩ := q
        rw [if_pos c1, if_neg c2] at q
        obtain ⟨hv, hq0⟩ := q
        have hq : ClS stT Ds pg pp r L Q C S1 := by first | exact hq0 | (rw [hq0]; exact hC)
        refine ev_ite (fun z => by omega) (fun _ => ?_)
        refine ev_ite (fun z => by omega) (fun _ => ?_)
        refine ev_ite (fun _ => ?_) (fun z => absurd hv z)
        exact ev_ret ⟨rfl, fun z => absurd z (by decide), hq, hx_of hx⟩
      · have h1' : RfS S1 stT Ds pg pp r L Q C S1 := h1
        refine ev_mono (ev_hi (fun n => (kr_X12_write n).1 _ _ _ _) (r_write (d := D) (h := h1') (hd := by omega) (hn := hn) (ha := ha))) (fun b2 S2 q => ?_)
        obtain ⟨q, hx⟩ := q
        rw [if_pos c1, if_neg c2] at q
        obtain ⟨ht, hq⟩ := q
        exact ⟨ht, fun z => absurd z (by decide), hq, by rw [(hx 600 (by decide)).1]⟩
  · skip
    refine ⟨1, 0, (Ds, pg, pp, r, L, Q, C), by decide, fun z => absurd z (by decide), ?_, fun S1 h1 => ?_⟩
    · unfold f_L_write
      dsimp only
      refine ev_gg (by first | omega | (constructor <;> omega)) ?_
      refine ev_gc (ev_hi (fun n => (kh_X11_write n).1 _ _ _ _) (c_write (d := D - 1) (h := hC) (hd := by omega) (hn := hn))) (fun x1 S1 q => ?_)
      obtain ⟨q, hx⟩ := q
      rw [if_neg c1] at q
      obtain ⟨hv, hq0⟩ := q
      have hq : ClS stT Ds pg pp r L Q C S1 := by first | exact hq0 | (rw [hq0]; exact hC)
      refine ev_ite (fun z => by omega) (fun _ => ?_)
      refine ev_ite (fun _ => ?_) (fun z => absurd hv z)
      exact ev_ret ⟨rfl, fun z => absurd z (by decide), hq, hx_of hx⟩
    · have h1' : RfS S1 stT Ds pg pp r L Q C S1 := h1
      refine ev_mono (ev_hi (fun n => (kr_X12_write n).1 _ _ _ _) (r_write (d := D) (h := h1') (hd := by omega) (hn := hn) (ha := ha))) (fun b2 S2 q => ?_)
      obtain ⟨q, hx⟩ := q
      rw [if_neg c1] at q
      obtain ⟨ht, hq⟩ := q
      exact ⟨ht, fun z => absurd z (by decide), hq, by rw [(hx 600 (by decide)).1]⟩
theorem pr_paper {p nn : Int} (hD : 300 ≤ D) (hC : ClS stT Ds pg pp r L Q C S) (hR : RfS S stT Ds pg pp r L Q C S) (hp : inr p) (hn : inr nn) : PR inl (fun n => f_L_paper n D 0 S [p, nn]) (fun n S1 => f_X12_paper n D 0 S1 [p, nn]) (Ds, pg, pp, r, L, Q, C) S := by
  have ex := ex_e
  have n4 := hC.1.2.1
  by_cases c1 : 0 ≤ p ∧ p < (pp.length : Int)
  · skip
    by_cases c2 : 1 ≤ nn ∧ nn ≤ 7 ∧ nn ≤ (pp.length : Int) - p
    · skip
      have vi : inl (ppN pp nn.toNat p.toNat 0) := (pp_in (rf_pp hR).2.1 (by omega)).1
      refine ⟨0, (ppN pp nn.toNat p.toNat 0), (Ds, pg, pp, r, L, Q, C), by decide, fun _ => vi, ?_, fun S1 h1 => ?_⟩
      · unfold f_L_paper
        dsimp only
        refine ev_gg (by first | omega | (constructor <;> omega)) ?_
        refine ev_gc (ev_hi (fun n => (kh_X11_paper n).1 _ _ _ _) (c_paper (d := D - 1) (h := hC) (hd := by omega) (hb := (rf_pp hR).2.1) (hp := hp) (hn := hn))) (fun x1 S1 q => ?_)
        obtain ⟨q, hx⟩ := q
        obtain ⟨hv, hS⟩ := q
        rw [if_pos c1, if_pos c2] at hv
        have hq : ClS stT Ds pg pp r L Q C S1 := by rw [hS]; exact hC
        have lx : x1 < exB := by
          rw [hv]
          exact (pp_in (rf_pp hR).2.1 (by omega)).2
        refine ev_ite (fun _ => ?_) (fun z => absurd lx z)
        exact ev_ret ⟨rfl, fun _ => by rw [gI_a]; exact hv, cls_600 (l := (Ds, pg, pp, r, L, Q, C)) hq, hx_600 hx⟩
      · have h1' : RfS S1 stT Ds pg pp r L Q C S1 := h1
        refine ev_mono (ev_hi (fun n => (kr_X12_paper n).1 _ _ _ _) (r_paper (d := D) (h := h1') (hd := by omega) (hp := hp) (hn := hn))) (fun b2 S2 q => ?_)
        obtain ⟨q, hx⟩ := q
        obtain ⟨q, hq⟩ := q
        rw [if_pos c1, if_pos c2] at q
        obtain ⟨hb2, ht⟩ := q
        exact ⟨ht, fun _ => hb2, hq, by rw [(hx 600 (by decide)).1]⟩
    · skip
      refine ⟨2, 0, (Ds, pg, pp, r, L, Q, C), by decide, fun z => absurd z (by decide), ?_, fun S1 h1 => ?_⟩
      · unfold f_L_paper
        dsimp only
        refine ev_gg (by first | omega | (constructor <;> omega)) ?_
        refine ev_gc (ev_hi (fun n => (kh_X11_paper n).1 _ _ _ _) (c_paper (d := D - 1) (h := hC) (hd := by omega) (hb := (rf_pp hR).2.1) (hp := hp) (hn := hn))) (fun x1 S1 q => ?_)
        obtain ⟨q, hx⟩ := q
        obtain ⟨hv, hS⟩ := q
        rw [if_pos c1, if_neg c2] at hv
        have hq : ClS stT Ds pg pp r L Q C S1 := by rw [hS]; exact hC
        refine ev_ite (fun z => by omega) (fun _ => ?_)
        refine ev_ite (fun z => by omega) (fun _ => ?_)
        refine ev_ite (fun _ => ?_) (fun z => absurd hv z)
        exact ev_ret ⟨rfl, fun z => absurd z (by decide), hq, hx_of hx⟩
      · have h1' : RfS S1 stT Ds pg pp r L Q C S1 := h1
        refine ev_mono (ev_hi (fun n => (kr_X12_paper n).1 _ _ _ _) (r_paper (d := D) (h := h1') (hd := by omega) (hp := hp) (hn := hn))) (fun b2 S2 q => ?_)
        obtain ⟨q, hx⟩ := q
        obtain ⟨q, hq⟩ := q
        rw [if_pos c1, if_neg c2] at q
        have ht := q
        exact ⟨ht, fun z => absurd z (by decide), hq, by rw [(hx 600 (by decide)).1]⟩
  · skip
    refine ⟨1, 0, (Ds, pg, pp, r, L, Q, C), by decide, fun z => absurd z (by decide), ?_, fun S1 h1 => ?_⟩
    · unfold f_L_paper
      dsimp only
      refine ev_gg (by first | omega | (constructor <;> omega)) ?_
      refine ev_gc (ev_hi (fun n => (kh_X11_paper n).1 _ _ _ _) (c_paper (d := D - 1) (h := hC) (hd := by omega) (hb := (rf_pp hR).2.1) (hp := hp) (hn := hn))) (fun x1 S1 q => ?_)
      obtain ⟨q, hx⟩ := q
      obtain ⟨hv, hS⟩ := q
      rw [if_neg c1] at hv
      have hq : ClS stT Ds pg pp r L Q C S1 := by rw [hS]; exact hC
      refine ev_ite (fun z => by omega) (fun _ => ?_)
      refine ev_ite (fun _ => ?_) (fun z => absurd hv z)
      exact ev_ret ⟨rfl, fun z => absurd z (by decide), hq, hx_of hx⟩
    · have h1' : RfS S1 stT Ds pg pp r L Q C S1 := h1
      refine ev_mono (ev_hi (fun n => (kr_X12_paper n).1 _ _ _ _) (r_paper (d := D) (h := h1') (hd := by omega) (hp := hp) (hn := hn))) (fun b2 S2 q => ?_)
      obtain ⟨q, hx⟩ := q
      obtain ⟨q, hq⟩ := q
      rw [if_neg c1] at q
      have ht := q
      exact ⟨ht, fun z => absurd z (by decide), hq, by rw [(hx 600 (by decide)).1]⟩
theorem pr_rule {a : Int} (hD : 300 ≤ D) (hC : ClS stT Ds pg pp r L Q C S) (hR : RfS S stT Ds pg pp r L Q C S) (ha : inr a) : PR inr (fun n => f_L_rule n D 0 S [a]) (fun n S1 => f_X12_rule n D 0 S1 [a]) (Ds, pg, pp, r, L, Q, C) S := by
  have ex := ex_e
  have n4 := hC.1.2.1
  by_cases c1 : 0 ≤ a ∧ a ≤ 2
  · skip
    have vi : inr r := ⟨by have := hC.2.2.2.1.2; omega, by have := hC.2.2.2.1.2; omega⟩
    refine ⟨0, r, (Ds, pg, pp, a, L, Q, C), by decide, fun _ => vi, ?_, fun S1 h1 => ?_⟩
    · unfold f_L_rule
      dsimp only
      refine ev_gg (by first | omega | (constructor <;> omega)) ?_
      refine ev_gc (ev_hi (fun n => (kh_X11_rule n) _ _ _) (c_rule (d := D - 1) (h := hC) (ha := ha))) (fun x1 S1 q => ?_)
      obtain ⟨q, hx⟩ := q
      rw [if_pos c1] at q
      obtain ⟨hv, hq⟩ := q
      have lx : x1 < exB := by
        rw [hv]
        have := vi.2; omega
      refine ev_ite (fun _ => ?_) (fun z => absurd lx z)
      refine ev_gg ((by rw [hv]; exact vi)) ?_
      exact ev_ret ⟨rfl, fun _ => by rw [gI_a]; exact hv, cls_600 (l := (Ds, pg, pp, a, L, Q, C)) hq, hx_600 hx⟩
    · have h1' : RfS S1 stT Ds pg pp r L Q C S1 := h1
      refine ev_mono (ev_hi (fun n => (kr_X12_rule n) _ _ _) (r_rule (d := D) (h := h1') (hd := by omega) (ha := ha))) (fun b2 S2 q => ?_)
      obtain ⟨q, hx⟩ := q
      rw [if_pos c1] at q
      obtain ⟨hb2, ht, hq⟩ := q
      exact ⟨ht, fun _ => hb2, hq, by rw [(hx 600 (by decide)).1]⟩
  · skip
    refine ⟨1, 0, (Ds, pg, pp, r, L, Q, C), by decide, fun z => absurd z (by decide), ?_, fun S1 h1 => ?_⟩
    · unfold f_L_rule
      dsimp only
      refine ev_gg (by first | omega | (constructor <;> omega)) ?_
      refine ev_gc (ev_hi (fun n => (kh_X11_rule n) _ _ _) (c_rule (d := D - 1) (h := hC) (ha := ha))) (fun x1 S1 q => ?_)
      obtain ⟨q, hx⟩ := q
      rw [if_neg c1] at q
      obtain ⟨hv, hq0⟩ := q
      have hq : ClS stT Ds pg pp r L Q C S1 := by first | exact hq0 | (rw [hq0]; exact hC)
      refine ev_ite (fun z => by omega) (fun _ => ?_)
      refine ev_ite (fun _ => ?_) (fun z => absurd hv z)
      exact ev_ret ⟨rfl, fun z => absurd z (by decide), hq, hx_of hx⟩
    · have h1' : RfS S1 stT Ds pg pp r L Q C S1 := h1
      refine ev_mono (ev_hi (fun n => (kr_X12_rule n) _ _ _) (r_rule (d := D) (h := h1') (hd := by omega) (ha := ha))) (fun b2 S2 q => ?_)
      obtain ⟨q, hx⟩ := q
      rw [if_neg c1] at q
      obtain ⟨ht, hq⟩ := q
      exact ⟨ht, fun z => absurd z (by decide), hq, by rw [(hx 600 (by decide)).1]⟩
theorem pr_print {a w : Int} (hD : 300 ≤ D) (hC : ClS stT Ds pg pp r L Q C S) (hR : RfS S stT Ds pg pp r L Q C S) (ha : inr a) (hw : inr w) : PR inr (fun n => f_L_print n D 0 S [a, w]) (fun n S1 => f_X12_print n D 0 S1 [a, w]) (Ds, pg, pp, r, L, Q, C) S := by
  have ex := ex_e
  have n4 := hC.1.2.1
  by_cases c1 : hasD Ds a
  · skip
    by_cases c2 : 0 ≤ w ∧ w ≤ 2
    · skip
      have vi : inr ((wrF 12 w 0 (atD' Ds a)).length : Int) := by
        obtain ⟨x0, S2, q, _⟩ := r_print (d := D) (h := hR) (hd := by omega) (ha := ha) (hw := hw)
        rw [if_pos c1, if_pos c2] at q
        exact (rf_pp q.2.2).1
      refine ⟨0, ((wrF 12 w 0 (atD' Ds a)).length : Int), (Ds, pg, (wrF 12 w 0 (atD' Ds a)), r, L, Q, C), by decide, fun _ => vi, ?_, fun S1 h1 => ?_⟩
      · unfold f_L_print
        dsimp only
        refine ev_gg (by first | omega | (constructor <;> omega)) ?_
        refine ev_gc (ev_hi (fun n => (kh_X11_print n) _ _ _ _) (c_print (d := D - 1) (h := hC) (hd := by omega) (ha := ha) (hw := hw))) (fun x1 S1 q => ?_)
        obtain ⟨q, hx⟩ := q
        rw [if_pos c1, if_pos c2] at q
        obtain ⟨hv, hq⟩ := q
        have lx : x1 < exB := by
          rw [hv]
          have := vi.2; omega
        refine ev_ite (fun _ => ?_) (fun z => absurd lx z)
        refine ev_gg ((by rw [hv]; exact vi)) ?_
        exact ev_ret ⟨rfl, fun _ => by rw [gI_a]; exact hv, cls_600 (l := (Ds, pg, (wrF 12 w 0 (atD' Ds a)), r, L, Q, C)) hq, hx_600 hx⟩
      · have h1' : RfS S1 stT Ds pg pp r L Q C S1 := h1
        refine ev_mono (ev_hi (fun n => (kr_X12_print n) _ _ _ _) (r_print (d := D) (h := h1') (hd := by omega) (ha := ha) (hw := hw))) (fun b2 S2 q => ?_)
        obtain ⟨q, hx⟩ := q
        rw [if_pos c1, if_pos c2] at q
        obtain ⟨hb2, ht, hq⟩ := q
        exact ⟨ht, fun _ => hb2, hq, by rw [(hx 600 (by decide)).1]⟩
    · skip
      refine ⟨2, 0, (Ds, pg, pp, r, L, Q, C), by decide, fun z => absurd z (by decide), ?_, fun S1 h1 => ?_⟩
      · unfold f_L_print
        dsimp only
        refine ev_gg (by first | omega | (constructor <;> omega)) ?_
        refine ev_gc (ev_hi (fun n => (kh_X11_print n) _ _ _ _) (c_print (d := D - 1) (h := hC) (hd := by omega) (ha := ha) (hw := hw))) (fun x1 S1 q => ?_)
        obtain ⟨q, hx⟩ := q
        rw [if_pos c1, if_neg c2] at q
        obtain ⟨hv, hq0⟩ := q
        have hq : ClS stT Ds pg pp r L Q C S1 := by first | exact hq0 | (rw [hq0]; exact hC)
        refine ev_ite (fun z => by omega) (fun _ => ?_)
        refine ev_ite (fun z => by omega) (fun _ => ?_)
        refine ev_ite (fun _ => ?_) (fun z => absurd hv z)
        exact ev_ret ⟨rfl, fun z => absurd z (by decide), hq, hx_of hx⟩
      · have h1' : RfS S1 stT Ds pg pp r L Q C S1 := h1
        refine ev_mono (ev_hi (fun n => (kr_X12_print n) _ _ _ _) (r_print (d := D) (h := h1') (hd := by omega) (ha := ha) (hw := hw))) (fun b2 S2 q => ?_)
        obtain ⟨q, hx⟩ := q
        rw [if_pos c1, if_neg c2] at q
        obtain ⟨ht, hq⟩ := q
        exact ⟨ht, fun z => absurd z (by decide), hq, by rw [(hx 600 (by decide)).1]⟩
  · skip
    refine ⟨1, 0, (Ds, pg, pp, r, L, Q, C), by decide, fun z => absurd z (by decide), ?_, fun S1 h1 => ?_⟩
    · unfold f_L_print
      dsimp only
      refine ev_gg (by first | omega | (constructor <;> omega)) ?_
      refine ev_gc (ev_hi (fun n => (kh_X11_print n) _ _ _ _) (c_print (d := D - 1) (h := hC) (hd := by omega) (ha := ha) (hw := hw))) (fun x1 S1 q => ?_)
      obtain ⟨q, hx⟩ := q
      rw [if_neg c1] at q
      obtain ⟨hv, hq0⟩ := q
      have hq : ClS stT Ds pg pp r L Q C S1 := by first | exact hq0 | (rw [hq0]; exact hC)
      refine ev_ite (fun z => by omega) (fun _ => ?_)
      refine ev_ite (fun _ => ?_) (fun z => absurd hv z)
      exact ev_ret ⟨rfl, fun z => absurd z (by decide), hq, hx_of hx⟩
    · have h1' : RfS S1 stT Ds pg pp r L Q C S1 := h1
      refine ev_mono (ev_hi (fun n => (kr_X12_print n) _ _ _ _) (r_print (d := D) (h := h1') (hd := by omega) (ha := ha) (hw := hw))) (fun b2 S2 q => ?_)
      obtain ⟨q, hx⟩ := q
      rw [if_neg c1] at q
      obtain ⟨ht, hq⟩ := q
      exact ⟨ht, fun z => absurd z (by decide), hq, by rw [(hx 600 (by decide)).1]⟩
theorem pr_node {a i w : Int} (hD : 300 ≤ D) (hC : ClS stT Ds pg pp r L Q C S) (hR : RfS S stT Ds pg pp r L Q C S) (ha : inr a) (hi : inr i) (hw : inr w) : PR inr (fun n => f_L_node n D 0 S [a, i, w]) (fun n S1 => f_X12_node n D 0 S1 [a, i, w]) (Ds, pg, pp, r, L, Q, C) S := by
  have ex := ex_e
  have n4 := hC.1.2.1
  by_cases c1 : hasD Ds a ∧ 0 ≤ i ∧ i < ((atD' Ds a).length : Int)
  · skip
    by_cases c2 : 0 ≤ w ∧ w ≤ 9
    · skip
      have vi : inr (abI (atD' Ds a) i.toNat w) := by
        have at_ := cl_at hC c1.1
        have tv : TV S (8 * a.toNat) (atD' Ds a) := at_.2.1.1
        have wf : WF (atD' Ds a) := at_.2.2.1.1.1.1
        have b := abI_r tv wf (i := i.toNat) (show i.toNat < (atD' Ds a).length by
          have u1 := c1.2.1
          have u2 := c1.2.2
          omega) w
        constructor <;> omega
      refine ⟨0, (abI (atD' Ds a) i.toNat w), (Ds, pg, pp, r, L, Q, C), by decide, fun _ => vi, ?_, fun S1 h1 => ?_⟩
      · unfold f_L_node
        dsimp only
        refine ev_gg (by first | omega | (constructor <;> omega)) ?_
        refine ev_gc (ev_hi (fun n => (kh_X11_node n) _ _ _ _ _) (c_node (d := D - 1) (h := hC) (hd := by omega) (ha := ha) (hi := hi) (hw := hw))) (fun x1 S1 q => ?_)
        obtain ⟨q, hx⟩ := q
        obtain ⟨hv, hS⟩ := q
        rw [if_pos c1, if_pos c2] at hv
        have hq : ClS stT Ds pg pp r L Q C S1 := by rw [hS]; exact hC
        have lx : x1 < exB := by
          rw [hv]
          have := vi.2; omega
        refine ev_ite (fun _ => ?_) (fun z => absurd lx z)
        refine ev_gg ((by rw [hv]; exact vi)) ?_
        exact ev_ret ⟨rfl, fun _ => by rw [gI_a]; exact hv, cls_600 (l := (Ds, pg, pp, r, L, Q, C)) hq, hx_600 hx⟩
      · have h1' : RfS S1 stT Ds pg pp r L Q C S1 := h1
        refine ev_mono (ev_hi (fun n => (kr_X12_node n) _ _ _ _ _) (r_node (d := D) (h := h1') (hd := by omega) (ha := ha) (hi := hi) (hw := hw))) (fun b2 S2 q => ?_)
        obtain ⟨q, hx⟩ := q
        obtain ⟨q, hq⟩ := q
        rw [if_pos c1, if_pos c2] at q
        obtain ⟨hb2, ht⟩ := q
        exact ⟨ht, fun _ => hb2, hq, by rw [(hx 600 (by decide)).1]⟩
    · skip
      refine ⟨2, 0, (Ds, pg, pp, r, L, Q, C), by decide, fun z => absurd z (by decide), ?_, fun S1 h1 => ?_⟩
      · unfold f_L_node
        dsimp only
        refine ev_gg (by first | omega | (constructor <;> omega)) ?_
        refine ev_gc (ev_hi (fun n => (kh_X11_node n) _ _ _ _ _) (c_node (d := D - 1) (h := hC) (hd := by omega) (ha := ha) (hi := hi) (hw := hw))) (fun x1 S1 q => ?_)
        obtain ⟨q, hx⟩ := q
        obtain ⟨hv, hS⟩ := q
        rw [if_pos c1, if_neg c2] at hv
        have hq : ClS stT Ds pg pp r L Q C S1 := by rw [hS]; exact hC
        refine ev_ite (fun z => by omega) (fun _ => ?_)
        refine ev_ite (fun z => by omega) (fun _ => ?_)
        refine ev_ite (fun _ => ?_) (fun z => absurd hv z)
        exact ev_ret ⟨rfl, fun z => absurd z (by decide), hq, hx_of hx⟩
      · have h1' : RfS S1 stT Ds pg pp r L Q C S1 := h1
        refine ev_mono (ev_hi (fun n => (kr_X12_node n) _ _ _ _ _) (r_node (d := D) (h := h1') (hd := by omega) (ha := ha) (hi := hi) (hw := hw))) (fun b2 S2 q => ?_)
        obtain ⟨q, hx⟩ := q
        obtain ⟨q, hq⟩ := q
        rw [if_pos c1, if_neg c2] at q
        have ht := q
        exact ⟨ht, fun z => absurd z (by decide), hq, by rw [(hx 600 (by decide)).1]⟩
  · skip
    refine ⟨1, 0, (Ds, pg, pp, r, L, Q, C), by decide, fun z => absurd z (by decide), ?_, fun S1 h1 => ?_⟩
    · unfold f_L_node
      dsimp only
      refine ev_gg (by first | omega | (constructor <;> omega)) ?_
      refine ev_gc (ev_hi (fun n => (kh_X11_node n) _ _ _ _ _) (c_node (d := D - 1) (h := hC) (hd := by omega) (ha := ha) (hi := hi) (hw := hw))) (fun x1 S1 q => ?_)
      obtain ⟨q, hx⟩ := q
      obtain ⟨hv, hS⟩ := q
      rw [if_neg c1] at hv
      have hq : ClS stT Ds pg pp r L Q C S1 := by rw [hS]; exact hC
      refine ev_ite (fun z => by omega) (fun _ => ?_)
      refine ev_ite (fun _ => ?_) (fun z => absurd hv z)
      exact ev_ret ⟨rfl, fun z => absurd z (by decide), hq, hx_of hx⟩
    · have h1' : RfS S1 stT Ds pg pp r L Q C S1 := h1
      refine ev_mono (ev_hi (fun n => (kr_X12_node n) _ _ _ _ _) (r_node (d := D) (h := h1') (hd := by omega) (ha := ha) (hi := hi) (hw := hw))) (fun b2 S2 q => ?_)
      obtain ⟨q, hx⟩ := q
      obtain ⟨q, hq⟩ := q
      rw [if_neg c1] at q
      have ht := q
      exact ⟨ht, fun z => absurd z (by decide), hq, by rw [(hx 600 (by decide)).1]⟩
theorem pr_tell {a i w : Int} (hD : 300 ≤ D) (hC : ClS stT Ds pg pp r L Q C S) (hR : RfS S stT Ds pg pp r L Q C S) (ha : inr a) (hi : inr i) (hw : inr w) : PR inr (fun n => f_L_tell n D 0 S [a, i, w]) (fun n S1 => f_X12_tell n D 0 S1 [a, i, w]) (Ds, pg, pp, r, L, Q, C) S := by
  have ex := ex_e
  have n4 := hC.1.2.1
  by_cases c1 : hasD Ds a ∧ 0 ≤ i ∧ i < ((atD' Ds a).length : Int)
  · skip
    by_cases c2 : 0 ≤ w ∧ w ≤ 3
    · skip
      by_cases c3 : tlO (atD' Ds a) i.toNat w
      · skip
        have vi : inr ((tlT (atD' Ds a) i.toNat w).length : Int) := by
          obtain ⟨x0, S2, q, _⟩ := r_tell (d := D) (h := hR) (hd := by omega) (ha := ha) (hi := hi) (hw := hw)
          rw [if_pos c1, if_pos c2, if_pos c3] at q
          exact (rf_pp q.2.2).1
        refine ⟨0, ((tlT (atD' Ds a) i.toNat w).length : Int), (Ds, pg, (tlT (atD' Ds a) i.toNat w), r, L, Q, C), by decide, fun _ => vi, ?_, fun S1 h1 => ?_⟩
        · unfold f_L_tell
          dsimp only
          refine ev_gg (by first | omega | (constructor <;> omega)) ?_
          refine ev_gc (ev_hi (fun n => (kh_X11_tell n) _ _ _ _ _) (c_tell (d := D - 1) (h := hC) (hd := by omega) (ha := ha) (hi := hi) (hw := hw))) (fun x1 S1 q => ?_)
          obtain ⟨q, hx⟩ := q
          rw [if_pos c1, if_pos c2, if_pos c3] at q
          obtain ⟨hv, hq⟩ := q
          have lx : x1 < exB := by
            rw [hv]
            have := vi.2; omega
          refine ev_ite (fun _ => ?_) (fun z => absurd lx z)
          refine ev_gg ((by rw [hv]; exact vi)) ?_
          exact ev_ret ⟨rfl, fun _ => by rw [gI_a]; exact hv, cls_600 (l := (Ds, pg, (tlT (atD' Ds a) i.toNat w), r, L, Q, C)) hq, hx_600 hx⟩
        · have h1' : RfS S1 stT Ds pg pp r L Q C S1 := h1
          refine ev_mono (ev_hi (fun n => (kr_X12_tell n).1 _ _ _ _ _) (r_tell (d := D) (h := h1') (hd := by omega) (ha := ha) (hi := hi) (hw := hw))) (fun b2 S2 q => ?_)
          obtain ⟨q, hx⟩ := q
          rw [if_pos c1, if_pos c2, if_pos c3] at q
          obtain ⟨hb2, ht, hq⟩ := q
          exact ⟨ht, fun _ => hb2, hq, by rw [(hx 600 (by decide)).1]⟩
      · skip
        refine ⟨3, 0, (Ds, pg, pp, r, L, Q, C), by decide, fun z => absurd z (by decide), ?_, fun S1 h1 => ?_⟩
        · unfold f_L_tell
          dsimp only
          refine ev_gg (by first | omega | (constructor <;> omega)) ?_
          refine ev_gc (ev_hi (fun n => (kh_X11_tell n) _ _ _ _ _) (c_tell (d := D - 1) (h := hC) (hd := by omega) (ha := ha) (hi := hi) (hw := hw))) (fun x1 S1 q => ?_)
          obtain ⟨q, hx⟩ := q
          rw [if_pos c1, if_pos c2, if_neg c3] at q
          obtain ⟨hv, hq0⟩ := q
          have hq : ClS stT Ds pg pp r L Q C S1 := by first | exact hq0 | (rw [hq0]; exact hC)
          refine ev_ite (fun z => by omega) (fun _ => ?_)
          refine ev_ite (fun z => by omega) (fun _ => ?_)
          refine ev_ite (fun z => by omega) (fun _ => ?_)
          refine ev_ite (fun _ => ?_) (fun z => absurd hv z)
          exact ev_ret ⟨rfl, fun z => absurd z (by decide), hq, hx_of hx⟩
        · have h1' : RfS S1 stT Ds pg pp r L Q C S1 := h1
          refine ev_mono (ev_hi (fun n => (kr_X12_tell n).1 _ _ _ _ _) (r_tell (d := D) (h := h1') (hd := by omega) (ha := ha) (hi := hi) (hw := hw))) (fun b2 S2 q => ?_)
          obtain ⟨q, hx⟩ := q
          rw [if_pos c1, if_pos c2, if_neg c3] at q
          obtain ⟨ht, hq⟩ := q
          exact ⟨ht, fun z => absurd z (by decide), hq, by rw [(hx 600 (by decide)).1]⟩
    · skip
      refine ⟨2, 0, (Ds, pg, pp, r, L, Q, C), by decide, fun z => absurd z (by decide), ?_, fun S1 h1 => ?_⟩
      · unfold f_L_tell
        dsimp only
        refine ev_gg (by first | omega | (constructor <;> omega)) ?_
        refine ev_gc (ev_hi (fun n => (kh_X11_tell n) _ _ _ _ _) (c_tell (d := D - 1) (h := hC) (hd := by omega) (ha := ha) (hi := hi) (hw := hw))) (fun x1 S1 q => ?_)
        obtain ⟨q, hx⟩ := q
        rw [if_pos c1, if_neg c2] at q
        obtain ⟨hv, hq0⟩ := q
        have hq : ClS stT Ds pg pp r L Q C S1 := by first | exact hq0 | (rw [hq0]; exact hC)
        refine ev_ite (fun z => by omega) (fun _ => ?_)
        refine ev_ite (fun z => by omega) (fun _ => ?_)
        refine ev_ite (fun _ => ?_) (fun z => absurd hv z)
        exact ev_ret ⟨rfl, fun z => absurd z (by decide), hq, hx_of hx⟩
      · have h1' : RfS S1 stT Ds pg pp r L Q C S1 := h1
        refine ev_mono (ev_hi (fun n => (kr_X12_tell n).1 _ _ _ _ _) (r_tell (d := D) (h := h1') (hd := by omega) (ha := ha) (hi := hi) (hw := hw))) (fun b2 S2 q => ?_)
        obtain ⟨q, hx⟩ := q
        rw [if_pos c1, if_neg c2] at q
        obtain ⟨ht, hq⟩ := q
        exact ⟨ht, fun z => absurd z (by decide), hq, by rw [(hx 600 (by decide)).1]⟩
  · skip
    refine ⟨1, 0, (Ds, pg, pp, r, L, Q, C), by decide, fun z => absurd z (by decide), ?_, fun S1 h1 => ?_⟩
    · unfold f_L_tell
      dsimp only
      refine ev_gg (by first | omega | (constructor <;> omega)) ?_
      refine ev_gc (ev_hi (fun n => (kh_X11_tell n) _ _ _ _ _) (c_tell (d := D - 1) (h := hC) (hd := by omega) (ha := ha) (hi := hi) (hw := hw))) (fun x1 S1 q => ?_)
      obtain ⟨q, hx⟩ := q
      rw [if_neg c1] at q
      obtain ⟨hv, hq0⟩ := q
      have hq : ClS stT Ds pg pp r L Q C S1 := by first | exact hq0 | (rw [hq0]; exact hC)
      refine ev_ite (fun z => by omega) (fun _ => ?_)
      refine ev_ite (fun _ => ?_) (fun z => absurd hv z)
      exact ev_ret ⟨rfl, fun z => absurd z (by decide), hq, hx_of hx⟩
    · have h1' : RfS S1 stT Ds pg pp r L Q C S1 := h1
      refine ev_mono (ev_hi (fun n => (kr_X12_tell n).1 _ _ _ _ _) (r_tell (d := D) (h := h1') (hd := by omega) (ha := ha) (hi := hi) (hw := hw))) (fun b2 S2 q => ?_)
      obtain ⟨q, hx⟩ := q
      rw [if_neg c1] at q
      obtain ⟨ht, hq⟩ := q
      exact ⟨ht, fun z => absurd z (by decide), hq, by rw [(hx 600 (by decide)).1]⟩
theorem pr_compare {a b : Int} (hD : 300 ≤ D) (hC : ClS stT Ds pg pp r L Q C S) (hR : RfS S stT Ds pg pp r L Q C S) (ha : inr a) (hb : inr b) : PR inr (fun n => f_L_compare n D 0 S [a, b]) (fun n S1 => f_X12_compare n D 0 S1 [a, b]) (Ds, pg, pp, r, L, Q, C) S := by
  have ex := ex_e
  have n4 := hC.1.2.1
  by_cases c1 : hasD Ds a ∧ hasD Ds b
  · skip
    by_cases c2 : kdI (atD' Ds a) 0 = 2 ∧ kdI (atD' Ds b) 0 = 2
    · skip
      have vi : inr (onI (atD' Ds a) 0 (atD' Ds b) 0) := on_r
      refine ⟨0, (onI (atD' Ds a) 0 (atD' Ds b) 0), (Ds, pg, pp, r, L, Q, C), by decide, fun _ => vi, ?_, fun S1 h1 => ?_⟩
      · unfold f_L_compare
        dsimp only
        refine ev_gg (by first | omega | (constructor <;> omega)) ?_
        refine ev_gc (ev_hi (fun n => (kh_X11_compare n) _ _ _ _) (c_compare (d := D - 1) (h := hC) (hd := by omega) (ha := ha) (hb := hb))) (fun x1 S1 q => ?_)
        obtain ⟨q, hx⟩ := q
        obtain ⟨hv, hS⟩ := q
        rw [if_pos c1, if_pos c2] at hv
        have hq : ClS stT Ds pg pp r L Q C S1 := by rw [hS]; exact hC
        have lx : x1 < exB := by
          rw [hv]
          have := vi.2; omega
        refine ev_ite (fun _ => ?_) (fun z => absurd lx z)
        refine ev_gg ((by rw [hv]; exact vi)) ?_
        exact ev_ret ⟨rfl, fun _ => by rw [gI_a]; exact hv, cls_600 (l := (Ds, pg, pp, r, L, Q, C)) hq, hx_600 hx⟩
      · have h1' : RfS S1 stT Ds pg pp r L Q C S1 := h1
        refine ev_mono (ev_hi (fun n => (kr_X12_compare n).1 _ _ _ _) (r_compare (d := D) (h := h1') (hd := by omega) (ha := ha) (hb := hb))) (fun b2 S2 q => ?_)
        obtain ⟨q, hx⟩ := q
        obtain ⟨q, hq⟩ := q
        rw [if_pos c1, if_pos c2] at q
        obtain ⟨hb2, ht⟩ := q
        exact ⟨ht, fun _ => hb2, hq, by rw [(hx 600 (by decide)).1]⟩
    · skip
      refine ⟨2, 0, (Ds, pg, pp, r, L, Q, C), by decide, fun z => absurd z (by decide), ?_, fun S1 h1 => ?_⟩
      · unfold f_L_compare
        dsimp only
        refine ev_gg (by first | omega | (constructor <;> omega)) ?_
        refine ev_gc (ev_hi (fun n => (kh_X11_compare n) _ _ _ _) (c_compare (d := D - 1) (h := hC) (hd := by omega) (ha := ha) (hb := hb))) (fun x1 S1 q => ?_)
        obtain ⟨q, hx⟩ := q
        obtain ⟨hv, hS⟩ := q
        rw [if_pos c1, if_neg c2] at hv
        have hq : ClS stT Ds pg pp r L Q C S1 := by rw [hS]; exact hC
        refine ev_ite (fun z => by omega) (fun _ => ?_)
        refine ev_ite (fun z => by omega) (fun _ => ?_)
        refine ev_ite (fun _ => ?_) (fun z => absurd hv z)
        exact ev_ret ⟨rfl, fun z => absurd z (by decide), hq, hx_of hx⟩
      · have h1' : RfS S1 stT Ds pg pp r L Q C S1 := h1
        refine ev_mono (ev_hi (fun n => (kr_X12_compare n).1 _ _ _ _) (r_compare (d := D) (h := h1') (hd := by omega) (ha := ha) (hb := hb))) (fun b2 S2 q => ?_)
        obtain ⟨q, hx⟩ := q
        obtain ⟨q, hq⟩ := q
        rw [if_pos c1, if_neg c2] at q
        have ht := q
        exact ⟨ht, fun z => absurd z (by decide), hq, by rw [(hx 600 (by decide)).1]⟩
  · skip
    refine ⟨1, 0, (Ds, pg, pp, r, L, Q, C), by decide, fun z => absurd z (by decide), ?_, fun S1 h1 => ?_⟩
    · unfold f_L_compare
      dsimp only
      refine ev_gg (by first | omega | (constructor <;> omega)) ?_
      refine ev_gc (ev_hi (fun n => (kh_X11_compare n) _ _ _ _) (c_compare (d := D - 1) (h := hC) (hd := by omega) (ha := ha) (hb := hb))) (fun x1 S1 q => ?_)
      obtain ⟨q, hx⟩ := q
      obtain ⟨hv, hS⟩ := q
      rw [if_neg c1] at hv
      have hq : ClS stT Ds pg pp r L Q C S1 := by rw [hS]; exact hC
      refine ev_ite (fun z => by omega) (fun _ => ?_)
      refine ev_ite (fun _ => ?_) (fun z => absurd hv z)
      exact ev_ret ⟨rfl, fun z => absurd z (by decide), hq, hx_of hx⟩
    · have h1' : RfS S1 stT Ds pg pp r L Q C S1 := h1
      refine ev_mono (ev_hi (fun n => (kr_X12_compare n).1 _ _ _ _) (r_compare (d := D) (h := h1') (hd := by omega) (ha := ha) (hb := hb))) (fun b2 S2 q => ?_)
      obtain ⟨q, hx⟩ := q
      obtain ⟨q, hq⟩ := q
      rw [if_neg c1] at q
      have ht := q
      exact ⟨ht, fun z => absurd z (by decide), hq, by rw [(hx 600 (by decide)).1]⟩
theorem pr_digest {a i : Int} (hD : 300 ≤ D) (hC : ClS stT Ds pg pp r L Q C S) (hR : RfS S stT Ds pg pp r L Q C S) (ha : inr a) (hi : inr i) : PR inr (fun n => f_L_digest n D 0 S [a, i]) (fun n S1 => f_X12_digest n D 0 S1 [a, i]) (Ds, pg, pp, r, L, Q, C) S := by
  have ex := ex_e
  have n4 := hC.1.2.1
  by_cases c1 : hasD Ds a ∧ 0 ≤ i ∧ i < ((atD' Ds a).length : Int)
  · skip
    have vi : inr (dgst 7 (wrF 12 1 0 (sg (atD' Ds a) i.toNat))) := by
      have at_ := cl_at hC c1.1
      have dc : DOC (atD' Ds a) := at_.2.2
      have ds := doc_sg dc (i := i.toNat) (show i.toNat < (atD' Ds a).length by
        have u1 := c1.2.1
        have u2 := c1.2.2
        omega)
      have b := dgst_r (wrF 12 1 0 (sg (atD' Ds a) i.toNat)) 7 (by decide) (wr_rng 12 0 _ ds.1)
      constructor <;> omega
    refine ⟨0, (dgst 7 (wrF 12 1 0 (sg (atD' Ds a) i.toNat))), (Ds, pg, pp, r, L, Q, C), by decide, fun _ => vi, ?_, fun S1 h1 => ?_⟩
    · unfold f_L_digest
      dsimp only
      refine ev_gg (by first | omega | (constructor <;> omega)) ?_
      refine ev_gc (ev_hi (fun n => (kh_X11_digest n) _ _ _ _) (c_digest (d := D - 1) (h := hC) (hd := by omega) (ha := ha) (hi := hi))) (fun x1 S1 q => ?_)
      obtain ⟨q, hx⟩ := q
      rw [if_pos c1] at q
      obtain ⟨hv, hq⟩ := q
      have lx : x1 < exB := by
        rw [hv]
        have := vi.2; omega
      refine ev_ite (fun _ => ?_) (fun z => absurd lx z)
      refine ev_gg ((by rw [hv]; exact vi)) ?_
      exact ev_ret ⟨rfl, fun _ => by rw [gI_a]; exact hv, cls_600 (l := (Ds, pg, pp, r, L, Q, C)) hq, hx_600 hx⟩
    · have h1' : RfS S1 stT Ds pg pp r L Q C S1 := h1
      refine ev_mono (ev_hi (fun n => (kr_X12_digest n).1 _ _ _ _) (r_digest (d := D) (h := h1') (hd := by omega) (ha := ha) (hi := hi))) (fun b2 S2 q => ?_)
      obtain ⟨q, hx⟩ := q
      obtain ⟨q, hq⟩ := q
      rw [if_pos c1] at q
      obtain ⟨hb2, ht⟩ := q
      exact ⟨ht, fun _ => hb2, hq, by rw [(hx 600 (by decide)).1]⟩
  · skip
    refine ⟨1, 0, (Ds, pg, pp, r, L, Q, C), by decide, fun z => absurd z (by decide), ?_, fun S1 h1 => ?_⟩
    · unfold f_L_digest
      dsimp only
      refine ev_gg (by first | omega | (constructor <;> omega)) ?_
      refine ev_gc (ev_hi (fun n => (kh_X11_digest n) _ _ _ _) (c_digest (d := D - 1) (h := hC) (hd := by omega) (ha := ha) (hi := hi))) (fun x1 S1 q => ?_)
      obtain ⟨q, hx⟩ := q
      rw [if_neg c1] at q
      obtain ⟨hv, hq0⟩ := q
      have hq : ClS stT Ds pg pp r L Q C S1 := by first | exact hq0 | (rw [hq0]; exact hC)
      refine ev_ite (fun z => by omega) (fun _ => ?_)
      refine ev_ite (fun _ => ?_) (fun z => absurd hv z)
      exact ev_ret ⟨rfl, fun z => absurd z (by decide), hq, hx_of hx⟩
    · have h1' : RfS S1 stT Ds pg pp r L Q C S1 := h1
      refine ev_mono (ev_hi (fun n => (kr_X12_digest n).1 _ _ _ _) (r_digest (d := D) (h := h1') (hd := by omega) (ha := ha) (hi := hi))) (fun b2 S2 q => ?_)
      obtain ⟨q, hx⟩ := q
      obtain ⟨q, hq⟩ := q
      rw [if_neg c1] at q
      have ht := q
      exact ⟨ht, fun z => absurd z (by decide), hq, by rw [(hx 600 (by decide)).1]⟩
theorem pr_take {a i : Int} (hD : 300 ≤ D) (hC : ClS stT Ds pg pp r L Q C S) (hR : RfS S stT Ds pg pp r L Q C S) (ha : inr a) (hi : inr i) : PR inr (fun n => f_L_take n D 0 S [a, i]) (fun n S1 => f_X12_take n D 0 S1 [a, i]) (Ds, pg, pp, r, L, Q, C) S := by
  have ex := ex_e
  have n4 := hC.1.2.1
  by_cases c1 : hasD Ds a ∧ 0 ≤ i ∧ i < ((atD' Ds a).length : Int)
  · skip
    by_cases c2 : Ds.length < 40
    · skip
      have vi : inr (Ds.length : Int) := by constructor <;> omega
      refine ⟨0, (Ds.length : Int), ((Ds ++ [kyT (sg (atD' Ds a) i.toNat) []]), pg, pp, r, L, Q, C), by decide, fun _ => vi, ?_, fun S1 h1 => ?_⟩
      · unfold f_L_take
        dsimp only
        refine ev_gg (by first | omega | (constructor <;> omega)) ?_
        refine ev_gc (ev_hi (fun n => (kh_X11_take n) _ _ _ _) (c_take (d := D - 1) (h := hC) (hd := by omega) (ha := ha) (hi := hi))) (fun x1 S1 q => ?_)
        obtain ⟨q, hx⟩ := q
        rw [if_pos c1, if_pos c2] at q
        obtain ⟨hv, hq⟩ := q
        have lx : x1 < exB := by
          rw [hv]
          have := vi.2; omega
        refine ev_ite (fun _ => ?_) (fun z => absurd lx z)
        refine ev_gg ((by rw [hv]; exact vi)) ?_
        exact ev_ret ⟨rfl, fun _ => by rw [gI_a]; exact hv, cls_600 (l := ((Ds ++ [kyT (sg (atD' Ds a) i.toNat) []]), pg, pp, r, L, Q, C)) hq, hx_600 hx⟩
      · have h1' : RfS S1 stT Ds pg pp r L Q C S1 := h1
        refine ev_mono (ev_hi (fun n => (kr_X12_take n).1 _ _ _ _) (r_take (d := D) (h := h1') (hd := by omega) (ha := ha) (hi := hi))) (fun b2 S2 q => ?_)
        obtain ⟨q, hx⟩ := q
        rw [if_pos c1, if_pos c2] at q
        obtain ⟨hb2, ht, hq⟩ := q
        exact ⟨ht, fun _ => hb2, hq, by rw [(hx 600 (by decide)).1]⟩
    · skip
      refine ⟨2, 0, (Ds, pg, pp, r, L, Q, C), by decide, fun z => absurd z (by decide), ?_, fun S1 h1 => ?_⟩
      · unfold f_L_take
        dsimp only
        refine ev_gg (by first | omega | (constructor <;> omega)) ?_
        refine ev_gc (ev_hi (fun n => (kh_X11_take n) _ _ _ _) (c_take (d := D - 1) (h := hC) (hd := by omega) (ha := ha) (hi := hi))) (fun x1 S1 q => ?_)
        obtain ⟨q, hx⟩ := q
        rw [if_pos c1, if_neg c2] at q
        obtain ⟨hv, hq0⟩ := q
        have hq : ClS stT Ds pg pp r L Q C S1 := by first | exact hq0 | (rw [hq0]; exact hC)
        refine ev_ite (fun z => by omega) (fun _ => ?_)
        refine ev_ite (fun z => by omega) (fun _ => ?_)
        refine ev_ite (fun _ => ?_) (fun z => absurd hv z)
        exact ev_ret ⟨rfl, fun z => absurd z (by decide), hq, hx_of hx⟩
      · have h1' : RfS S1 stT Ds pg pp r L Q C S1 := h1
        refine ev_mono (ev_hi (fun n => (kr_X12_take n).1 _ _ _ _) (r_take (d := D) (h := h1') (hd := by omega) (ha := ha) (hi := hi))) (fun b2 S2 q => ?_)
        obtain ⟨q, hx⟩ := q
        rw [if_pos c1, if_neg c2] at q
        obtain ⟨ht, hq⟩ := q
        exact ⟨ht, fun z => absurd z (by decide), hq, by rw [(hx 600 (by decide)).1]⟩
  · skip
    refine ⟨1, 0, (Ds, pg, pp, r, L, Q, C), by decide, fun z => absurd z (by decide), ?_, fun S1 h1 => ?_⟩
    · unfold f_L_take
      dsimp only
      refine ev_gg (by first | omega | (constructor <;> omega)) ?_
      refine ev_gc (ev_hi (fun n => (kh_X11_take n) _ _ _ _) (c_take (d := D - 1) (h := hC) (hd := by omega) (ha := ha) (hi := hi))) (fun x1 S1 q => ?_)
      obtain ⟨q, hx⟩ := q
      rw [if_neg c1] at q
      obtain ⟨hv, hq0⟩ := q
      have hq : ClS stT Ds pg pp r L Q C S1 := by first | exact hq0 | (rw [hq0]; exact hC)
      refine ev_ite (fun z => by omega) (fun _ => ?_)
      refine ev_ite (fun _ => ?_) (fun z => absurd hv z)
      exact ev_ret ⟨rfl, fun z => absurd z (by decide), hq, hx_of hx⟩
    · have h1' : RfS S1 stT Ds pg pp r L Q C S1 := h1
      refine ev_mono (ev_hi (fun n => (kr_X12_take n).1 _ _ _ _) (r_take (d := D) (h := h1') (hd := by omega) (ha := ha) (hi := hi))) (fun b2 S2 q => ?_)
      obtain ⟨q, hx⟩ := q
      rw [if_neg c1] at q
      obtain ⟨ht, hq⟩ := q
      exact ⟨ht, fun z => absurd z (by decide), hq, by rw [(hx 600 (by decide)).1]⟩
end PRS
