/-! CALLS of both (equal, complaint, lay, patch, turn, read) -/
section PRT
variable {S : GS} {Ds : List (List ND)} {pg pp : List Int} {r : Int} {L : List Nat} {Q : List (List Int)} {C : List (Int × Int)} {D : Nat}
theorem pr_equal {a b : Int} (hD : 300 ≤ D) (hC : ClS stT Ds pg pp r L Q C S) (hR : RfS S stT Ds pg pp r L Q C S) (ha : inr a) (hb : inr b) : PR (fun x : Int => x = 0 ∨ x = 1) (fun n => f_L_equal n D 0 S [a, b]) (fun n S1 => f_X12_equal n D 0 S1 [a, b]) (Ds, pg, pp, r, L, Q, C) S := by
  have ex := ex_e
  have n4 := hC.1.2.1
  by_cases c1 : hasD Ds a ∧ hasD Ds b
  · have dA : DOC (atD' Ds a) := (cl_at hC c1.1).2.2
    have dB : DOC (atD' Ds b) := (cl_at hC c1.2).2.2
    have es : smJ 13 (atD' Ds a) 0 (atD' Ds b) 0 = smF 13 (atD' Ds a) (atD' Ds b) := by
      have l1 := dB.1.1.1.2.1
      unfold smJ
      rw [if_pos (by omega), sg_self dA.1.1.1]
      show smF 13 (atD' Ds a) (sg (atD' Ds b) 0) = _
      rw [sg_self dB.1.1.1]
    have vi : (fun x : Int => x = 0 ∨ x = 1) (if smF 13 (atD' Ds a) (atD' Ds b) = true then 1 else 0 : Int) := by
      show (if smF 13 (atD' Ds a) (atD' Ds b) = true then (1 : Int) else 0) = 0 ∨ (if smF 13 (atD' Ds a) (atD' Ds b) = true then (1 : Int) else 0) = 1
      split
      · exact Or.inr rfl
      · exact Or.inl rfl
    refine ⟨0, (if smF 13 (atD' Ds a) (atD' Ds b) = true then 1 else 0 : Int), (Ds, pg, pp, r, L, Q, C), by decide, fun _ => vi, ?_, fun S1 h1 => ?_⟩
    · unfold f_L_equal
      dsimp only
      refine ev_gg (by first | omega | (constructor <;> omega)) ?_
      refine ev_gc (ev_hi (fun n => (kh_X11_equal n) _ _ _ _) (c_equal (d := D - 1) (h := hC) (hd := by omega) (ha := ha) (hb := hb))) (fun x1 S1 q => ?_)
      obtain ⟨q, hx⟩ := q
      obtain ⟨hv, hS⟩ := q
      rw [if_pos c1, es] at hv
      have hq : ClS stT Ds pg pp r L Q C S1 := by rw [hS]; exact hC
      have lx : x1 < exB := by
        rw [hv]
        rcases vi with z | z <;> rw [z] <;> omega
      refine ev_ite (fun _ => ?_) (fun z => absurd lx z)
      refine ev_gg ((by rw [hv]; exact vi)) ?_
      exact ev_ret ⟨rfl, fun _ => by rw [gI_a]; exact hv, cls_600 (l := (Ds, pg, pp, r, L, Q, C)) hq, hx_600 hx⟩
    · have h1' : RfS S1 stT Ds pg pp r L Q C S1 := h1
      refine ev_mono (ev_hi (fun n => (kr_X12_equal n).1 _ _ _ _) (r_equal (d := D) (h := h1') (hd := by omega) (ha := ha) (hb := hb))) (fun b2 S2 q => ?_)
      obtain ⟨q, hx⟩ := q
      obtain ⟨q, hq⟩ := q
      rw [if_pos c1] at q
      obtain ⟨hb2, ht⟩ := q
      exact ⟨ht, fun _ => hb2, hq, by rw [(hx 600 (by decide)).1]⟩
  · skip
    refine ⟨1, 0, (Ds, pg, pp, r, L, Q, C), by decide, fun z => absurd z (by decide), ?_, fun S1 h1 => ?_⟩
    · unfold f_L_equal
      dsimp only
      refine ev_gg (by first | omega | (constructor <;> omega)) ?_
      refine ev_gc (ev_hi (fun n => (kh_X11_equal n) _ _ _ _) (c_equal (d := D - 1) (h := hC) (hd := by omega) (ha := ha) (hb := hb))) (fun x1 S1 q => ?_)
      obtain ⟨q, hx⟩ := q
      obtain ⟨hv, hS⟩ := q
      rw [if_neg c1] at hv
      have hq : ClS stT Ds pg pp r L Q C S1 := by rw [hS]; exact hC
      refine ev_ite (fun z => by omega) (fun _ => ?_)
      refine ev_ite (fun _ => ?_) (fun z => absurd hv z)
      exact ev_ret ⟨rfl, fun z => absurd z (by decide), hq, hx_of hx⟩
    · have h1' : RfS S1 stT Ds pg pp r L Q C S1 := h1
      refine ev_mono (ev_hi (fun n => (kr_X12_equal n).1 _ _ _ _) (r_equal (d := D) (h := h1') (hd := by omega) (ha := ha) (hb := hb))) (fun b2 S2 q => ?_)
      obtain ⟨q, hx⟩ := q
      obtain ⟨q, hq⟩ := q
      rw [if_neg c1] at q
      have ht := q.2
      exact ⟨ht, fun z => absurd z (by decide), hq, by rw [(hx 600 (by decide)).1]⟩
theorem pr_complaint {k w : Int} (hD : 300 ≤ D) (hC : ClS stT Ds pg pp r L Q C S) (hR : RfS S stT Ds pg pp r L Q C S) (hk : inr k) (hw : inr w) : PR inr (fun n => f_L_complaint n D 0 S [k, w]) (fun n S1 => f_X12_complaint n D 0 S1 [k, w]) (Ds, pg, pp, r, L, Q, C) S := by
  have ex := ex_e
  have n4 := hC.1.2.1
  by_cases c1 : 0 ≤ k ∧ k < (C.length : Int)
  · have g := (hR.2.2.2.2.2.2.1.2.2.1 k.toNat (by omega)).2
    by_cases w0 : w = 0
    · skip
      have vi : inr (prA C k.toNat).1 := by constructor <;> omega
      refine ⟨0, (prA C k.toNat).1, (Ds, pg, pp, r, L, Q, C), by decide, fun _ => vi, ?_, fun S1 h1 => ?_⟩
      · unfold f_L_complaint
        dsimp only
        refine ev_gg (by first | omega | (constructor <;> omega)) ?_
        refine ev_gc (ev_hi (fun n => (kh_X11_complaint n) _ _ _ _) (c_complaint (d := D - 1) (h := hC) (hd := by omega) (hk := hk) (hw := hw))) (fun x1 S1 q => ?_)
        obtain ⟨q, hx⟩ := q
        obtain ⟨hv, hS⟩ := q
        rw [if_pos c1, if_pos w0] at hv
        have hq : ClS stT Ds pg pp r L Q C S1 := by rw [hS]; exact hC
        have lx : x1 < exB := by
          rw [hv]
          have := vi.2; omega
        refine ev_ite (fun _ => ?_) (fun z => absurd lx z)
        refine ev_gg ((by rw [hv]; exact vi)) ?_
        exact ev_ret ⟨rfl, fun _ => by rw [gI_a]; exact hv, cls_600 (l := (Ds, pg, pp, r, L, Q, C)) hq, hx_600 hx⟩
      · have h1' : RfS S1 stT Ds pg pp r L Q C S1 := h1
        refine ev_mono (ev_hi (fun n => (kr_X12_complaint n) _ _ _ _) (r_complaint (d := D) (h := h1') (hd := by omega) (hk := hk) (hw := hw))) (fun b2 S2 q => ?_)
        obtain ⟨q, hx⟩ := q
        obtain ⟨q, hq⟩ := q
        rw [if_pos c1, if_pos (show 0 ≤ w ∧ w ≤ 1 by omega), if_pos w0] at q
        obtain ⟨hb2, ht⟩ := q
        exact ⟨ht, fun _ => hb2, hq, by rw [(hx 600 (by decide)).1]⟩
    · by_cases w1 : w = 1
      · skip
        have vi : inr (prA C k.toNat).2 := by constructor <;> omega
        refine ⟨0, (prA C k.toNat).2, (Ds, pg, pp, r, L, Q, C), by decide, fun _ => vi, ?_, fun S1 h1 => ?_⟩
        · unfold f_L_complaint
          dsimp only
          refine ev_gg (by first | omega | (constructor <;> omega)) ?_
          refine ev_gc (ev_hi (fun n => (kh_X11_complaint n) _ _ _ _) (c_complaint (d := D - 1) (h := hC) (hd := by omega) (hk := hk) (hw := hw))) (fun x1 S1 q => ?_)
          obtain ⟨q, hx⟩ := q
          obtain ⟨hv, hS⟩ := q
          rw [if_pos c1, if_neg w0, if_pos w1] at hv
          have hq : ClS stT Ds pg pp r L Q C S1 := by rw [hS]; exact hC
          have lx : x1 < exB := by
            rw [hv]
            have := vi.2; omega
          refine ev_ite (fun _ => ?_) (fun z => absurd lx z)
          refine ev_gg ((by rw [hv]; exact vi)) ?_
          exact ev_ret ⟨rfl, fun _ => by rw [gI_a]; exact hv, cls_600 (l := (Ds, pg, pp, r, L, Q, C)) hq, hx_600 hx⟩
        · have h1' : RfS S1 stT Ds pg pp r L Q C S1 := h1
          refine ev_mono (ev_hi (fun n => (kr_X12_complaint n) _ _ _ _) (r_complaint (d := D) (h := h1') (hd := by omega) (hk := hk) (hw := hw))) (fun b2 S2 q => ?_)
          obtain ⟨q, hx⟩ := q
          obtain ⟨q, hq⟩ := q
          rw [if_pos c1, if_pos (show 0 ≤ w ∧ w ≤ 1 by omega), if_neg w0] at q
          obtain ⟨hb2, ht⟩ := q
          exact ⟨ht, fun _ => hb2, hq, by rw [(hx 600 (by decide)).1]⟩
      · skip
        refine ⟨2, 0, (Ds, pg, pp, r, L, Q, C), by decide, fun z => absurd z (by decide), ?_, fun S1 h1 => ?_⟩
        · unfold f_L_complaint
          dsimp only
          refine ev_gg (by first | omega | (constructor <;> omega)) ?_
          refine ev_gc (ev_hi (fun n => (kh_X11_complaint n) _ _ _ _) (c_complaint (d := D - 1) (h := hC) (hd := by omega) (hk := hk) (hw := hw))) (fun x1 S1 q => ?_)
          obtain ⟨q, hx⟩ := q
          obtain ⟨hv, hS⟩ := q
          rw [if_pos c1, if_neg w0, if_neg w1] at hv
          have hq : ClS stT Ds pg pp r L Q C S1 := by rw [hS]; exact hC
          refine ev_ite (fun z => by omega) (fun _ => ?_)
          refine ev_ite (fun z => by omega) (fun _ => ?_)
          refine ev_ite (fun _ => ?_) (fun z => absurd hv z)
          exact ev_ret ⟨rfl, fun z => absurd z (by decide), hq, hx_of hx⟩
        · have h1' : RfS S1 stT Ds pg pp r L Q C S1 := h1
          refine ev_mono (ev_hi (fun n => (kr_X12_complaint n) _ _ _ _) (r_complaint (d := D) (h := h1') (hd := by omega) (hk := hk) (hw := hw))) (fun b2 S2 q => ?_)
          obtain ⟨q, hx⟩ := q
          obtain ⟨q, hq⟩ := q
          rw [if_pos c1, if_neg (show ¬ (0 ≤ w ∧ w ≤ 1) by omega)] at q
          have ht := q
          exact ⟨ht, fun z => absurd z (by decide), hq, by rw [(hx 600 (by decide)).1]⟩
  · skip
    refine ⟨1, 0, (Ds, pg, pp, r, L, Q, C), by decide, fun z => absurd z (by decide), ?_, fun S1 h1 => ?_⟩
    · unfold f_L_complaint
      dsimp only
      refine ev_gg (by first | omega | (constructor <;> omega)) ?_
      refine ev_gc (ev_hi (fun n => (kh_X11_complaint n) _ _ _ _) (c_complaint (d := D - 1) (h := hC) (hd := by omega) (hk := hk) (hw := hw))) (fun x1 S1 q => ?_)
      obtain ⟨q, hx⟩ := q
      obtain ⟨hv, hS⟩ := q
      rw [if_neg c1] at hv
      have hq : ClS stT Ds pg pp r L Q C S1 := by rw [hS]; exact hC
      refine ev_ite (fun z => by omega) (fun _ => ?_)
      refine ev_ite (fun _ => ?_) (fun z => absurd hv z)
      exact ev_ret ⟨rfl, fun z => absurd z (by decide), hq, hx_of hx⟩
    · have h1' : RfS S1 stT Ds pg pp r L Q C S1 := h1
      refine ev_mono (ev_hi (fun n => (kr_X12_complaint n) _ _ _ _) (r_complaint (d := D) (h := h1') (hd := by omega) (hk := hk) (hw := hw))) (fun b2 S2 q => ?_)
      obtain ⟨q, hx⟩ := q
      obtain ⟨q, hq⟩ := q
      rw [if_neg c1] at q
      have ht := q
      exact ⟨ht, fun z => absurd z (by decide), hq, by rw [(hx 600 (by decide)).1]⟩
theorem pr_lay {a b : Int} (hD : 300 ≤ D) (hC : ClS stT Ds pg pp r L Q C S) (hR : RfS S stT Ds pg pp r L Q C S) (ha : inr a) (hb : inr b) : PR inr (fun n => f_L_lay n D 0 S [a, b]) (fun n S1 => f_X12_lay n D 0 S1 [a, b]) (Ds, pg, pp, r, L, Q, C) S := by
  have ex := ex_e
  have n4 := hC.1.2.1
  by_cases c1 : hasD Ds a ∧ hasD Ds b
  · by_cases c2 : rk (atD' Ds b) = 4
    · cases e : laF (atD' Ds b) (kids (atD' Ds b) 0) 0 (atD' Ds a) with
      | inl w =>
        have wl : w ≤ 100 := by
          obtain ⟨x0, S2, q, _⟩ := c_lay (d := D - 1) (h := hC) (hd := by omega) (ha := ha) (hb := hb)
          rw [if_pos c1, if_pos c2, e] at q
          exact q.2.1
        have vi : inr (-2 - (w : Int)) := by constructor <;> omega
        refine ⟨0, (-2 - (w : Int)), (Ds, pg, pp, r, L, Q, C), by decide, fun _ => vi, ?_, fun S1 h1 => ?_⟩
        · unfold f_L_lay
          dsimp only
          refine ev_gg (by first | omega | (constructor <;> omega)) ?_
          refine ev_gc (ev_hi (fun n => (kh_X11_lay n) _ _ _ _) (c_lay (d := D - 1) (h := hC) (hd := by omega) (ha := ha) (hb := hb))) (fun x1 S1 q => ?_)
          obtain ⟨q, hx⟩ := q
          rw [if_pos c1, if_pos c2, e] at q
          obtain ⟨hv, _, hq⟩ := q
          have lx : x1 < exB := by
            rw [hv]
            have := vi.2; omega
          refine ev_ite (fun _ => ?_) (fun z => absurd lx z)
          refine ev_gg ((by rw [hv]; exact vi)) ?_
          exact ev_ret ⟨rfl, fun _ => by rw [gI_a]; exact hv, cls_600 (l := (Ds, pg, pp, r, L, Q, C)) hq, hx_600 hx⟩
        · have h1' : RfS S1 stT Ds pg pp r L Q C S1 := h1
          refine ev_mono (ev_hi (fun n => (kr_X12_lay n).1 _ _ _ _) (r_lay (d := D) (h := h1') (hd := by omega) (ha := ha) (hb := hb))) (fun b2 S2 q => ?_)
          obtain ⟨q, hx⟩ := q
          rw [if_pos c1, if_pos c2, e] at q
          obtain ⟨hb2, ht, hq⟩ := q
          exact ⟨ht, fun _ => hb2, hq, by rw [(hx 600 (by decide)).1]⟩
      | inr T =>
        by_cases c3 : Ds.length < 40
        · skip
          have vi : inr (Ds.length : Int) := by constructor <;> omega
          refine ⟨0, (Ds.length : Int), ((Ds ++ [T]), pg, pp, r, L, Q, C), by decide, fun _ => vi, ?_, fun S1 h1 => ?_⟩
          · unfold f_L_lay
            dsimp only
            refine ev_gg (by first | omega | (constructor <;> omega)) ?_
            refine ev_gc (ev_hi (fun n => (kh_X11_lay n) _ _ _ _) (c_lay (d := D - 1) (h := hC) (hd := by omega) (ha := ha) (hb := hb))) (fun x1 S1 q => ?_)
            obtain ⟨q, hx⟩ := q
            rw [if_pos c1, if_pos c2, e] at q
            dsimp only at q
            rw [if_pos c3] at q
            obtain ⟨hv, hq⟩ := q
            have lx : x1 < exB := by
              rw [hv]
              have := vi.2; omega
            refine ev_ite (fun _ => ?_) (fun z => absurd lx z)
            refine ev_gg ((by rw [hv]; exact vi)) ?_
            exact ev_ret ⟨rfl, fun _ => by rw [gI_a]; exact hv, cls_600 (l := ((Ds ++ [T]), pg, pp, r, L, Q, C)) hq, hx_600 hx⟩
          · have h1' : RfS S1 stT Ds pg pp r L Q C S1 := h1
            refine ev_mono (ev_hi (fun n => (kr_X12_lay n).1 _ _ _ _) (r_lay (d := D) (h := h1') (hd := by omega) (ha := ha) (hb := hb))) (fun b2 S2 q => ?_)
            obtain ⟨q, hx⟩ := q
            rw [if_pos c1, if_pos c2, e] at q
            dsimp only at q
            rw [if_pos c3] at q
            obtain ⟨hb2, ht, _, hq⟩ := q
            exact ⟨ht, fun _ => hb2, hq, by rw [(hx 600 (by decide)).1]⟩
        · skip
          refine ⟨2, 0, (Ds, pg, pp, r, L, Q, C), by decide, fun z => absurd z (by decide), ?_, fun S1 h1 => ?_⟩
          · unfold f_L_lay
            dsimp only
            refine ev_gg (by first | omega | (constructor <;> omega)) ?_
            refine ev_gc (ev_hi (fun n => (kh_X11_lay n) _ _ _ _) (c_lay (d := D - 1) (h := hC) (hd := by omega) (ha := ha) (hb := hb))) (fun x1 S1 q => ?_)
            obtain ⟨q, hx⟩ := q
            rw [if_pos c1, if_pos c2, e] at q
            dsimp only at q
            rw [if_neg c3] at q
            obtain ⟨hv, hq⟩ := q
            refine ev_ite (fun z => by omega) (fun _ => ?_)
            refine ev_ite (fun z => by omega) (fun _ => ?_)
            refine ev_ite (fun _ => ?_) (fun z => absurd hv z)
            exact ev_ret ⟨rfl, fun z => absurd z (by decide), hq, hx_of hx⟩
          · have h1' : RfS S1 stT Ds pg pp r L Q C S1 := h1
            refine ev_mono (ev_hi (fun n => (kr_X12_lay n).1 _ _ _ _) (r_lay (d := D) (h := h1') (hd := by omega) (ha := ha) (hb := hb))) (fun b2 S2 q => ?_)
            obtain ⟨q, hx⟩ := q
            rw [if_pos c1, if_pos c2, e] at q
            dsimp only at q
            rw [if_neg c3] at q
            obtain ⟨ht, hq⟩ := q
            exact ⟨ht, fun z => absurd z (by decide), hq, by rw [(hx 600 (by decide)).1]⟩
    · skip
      have vi : inr (-1 : Int) := by decide
      refine ⟨0, (-1 : Int), (Ds, pg, pp, r, L, Q, C), by decide, fun _ => vi, ?_, fun S1 h1 => ?_⟩
      · unfold f_L_lay
        dsimp only
        refine ev_gg (by first | omega | (constructor <;> omega)) ?_
        refine ev_gc (ev_hi (fun n => (kh_X11_lay n) _ _ _ _) (c_lay (d := D - 1) (h := hC) (hd := by omega) (ha := ha) (hb := hb))) (fun x1 S1 q => ?_)
        obtain ⟨q, hx⟩ := q
        rw [if_pos c1, if_neg c2] at q
        obtain ⟨hv, hq⟩ := q
        have lx : x1 < exB := by
          rw [hv]
          omega
        refine ev_ite (fun _ => ?_) (fun z => absurd lx z)
        refine ev_gg ((by rw [hv]; exact vi)) ?_
        exact ev_ret ⟨rfl, fun _ => by rw [gI_a]; exact hv, cls_600 (l := (Ds, pg, pp, r, L, Q, C)) hq, hx_600 hx⟩
      · have h1' : RfS S1 stT Ds pg pp r L Q C S1 := h1
        refine ev_mono (ev_hi (fun n => (kr_X12_lay n).1 _ _ _ _) (r_lay (d := D) (h := h1') (hd := by omega) (ha := ha) (hb := hb))) (fun b2 S2 q => ?_)
        obtain ⟨q, hx⟩ := q
        rw [if_pos c1, if_neg c2] at q
        obtain ⟨hb2, ht, hq⟩ := q
        exact ⟨ht, fun _ => hb2, hq, by rw [(hx 600 (by decide)).1]⟩
  · skip
    refine ⟨1, 0, (Ds, pg, pp, r, L, Q, C), by decide, fun z => absurd z (by decide), ?_, fun S1 h1 => ?_⟩
    · unfold f_L_lay
      dsimp only
      refine ev_gg (by first | omega | (constructor <;> omega)) ?_
      refine ev_gc (ev_hi (fun n => (kh_X11_lay n) _ _ _ _) (c_lay (d := D - 1) (h := hC) (hd := by omega) (ha := ha) (hb := hb))) (fun x1 S1 q => ?_)
      obtain ⟨q, hx⟩ := q
      rw [if_neg c1] at q
      obtain ⟨hv, hq⟩ := q
      refine ev_ite (fun z => by omega) (fun _ => ?_)
      refine ev_ite (fun _ => ?_) (fun z => absurd hv z)
      exact ev_ret ⟨rfl, fun z => absurd z (by decide), hq, hx_of hx⟩
    · have h1' : RfS S1 stT Ds pg pp r L Q C S1 := h1
      refine ev_mono (ev_hi (fun n => (kr_X12_lay n).1 _ _ _ _) (r_lay (d := D) (h := h1') (hd := by omega) (ha := ha) (hb := hb))) (fun b2 S2 q => ?_)
      obtain ⟨q, hx⟩ := q
      rw [if_neg c1] at q
      obtain ⟨ht, hq⟩ := q
      exact ⟨ht, fun z => absurd z (by decide), hq, by rw [(hx 600 (by decide)).1]⟩
theorem pr_patch {a b : Int} (hD : 300 ≤ D) (hC : ClS stT Ds pg pp r L Q C S) (hR : RfS S stT Ds pg pp r L Q C S) (ha : inr a) (hb : inr b) : PR inr (fun n => f_L_patch n D 0 S [a, b]) (fun n S1 => f_X12_patch n D 0 S1 [a, b]) (Ds, pg, pp, r, L, Q, C) S := by
  have ex := ex_e
  have n4 := hC.1.2.1
  by_cases c1 : hasD Ds a ∧ hasD Ds b
  · cases e : ptT (atD' Ds a) (atD' Ds b) with
    | none =>
      refine ⟨2, 0, (Ds, pg, pp, r, L, Q, C), by decide, fun z => absurd z (by decide), ?_, fun S1 h1 => ?_⟩
      · unfold f_L_patch
        dsimp only
        refine ev_gg (by first | omega | (constructor <;> omega)) ?_
        refine ev_gc (ev_hi (fun n => (kh_X11_patch n) _ _ _ _) (c_patch (d := D - 1) (h := hC) (hd := by omega) (ha := ha) (hb := hb))) (fun x1 S1 q => ?_)
        obtain ⟨q, hx⟩ := q
        rw [if_pos c1, e] at q
        obtain ⟨hv, hq⟩ := q
        refine ev_ite (fun z => by omega) (fun _ => ?_)
        refine ev_ite (fun z => by omega) (fun _ => ?_)
        refine ev_ite (fun _ => ?_) (fun z => absurd hv z)
        exact ev_ret ⟨rfl, fun z => absurd z (by decide), hq, hx_of hx⟩
      · have h1' : RfS S1 stT Ds pg pp r L Q C S1 := h1
        refine ev_mono (ev_hi (fun n => (kr_X12_patch n).1 _ _ _ _) (r_patch (d := D) (h := h1') (hd := by omega) (ha := ha) (hb := hb))) (fun b2 S2 q => ?_)
        obtain ⟨q, hx⟩ := q
        rw [if_pos c1, e] at q
        obtain ⟨ht, hq⟩ := q
        exact ⟨ht, fun z => absurd z (by decide), hq, by rw [(hx 600 (by decide)).1]⟩
    | some T =>
      by_cases c3 : Ds.length < 40
      · skip
        have vi : inr (Ds.length : Int) := by constructor <;> omega
        refine ⟨0, (Ds.length : Int), ((Ds ++ [T]), pg, pp, r, L, Q, C), by decide, fun _ => vi, ?_, fun S1 h1 => ?_⟩
        · unfold f_L_patch
          dsimp only
          refine ev_gg (by first | omega | (constructor <;> omega)) ?_
          refine ev_gc (ev_hi (fun n => (kh_X11_patch n) _ _ _ _) (c_patch (d := D - 1) (h := hC) (hd := by omega) (ha := ha) (hb := hb))) (fun x1 S1 q => ?_)
          obtain ⟨q, hx⟩ := q
          rw [if_pos c1, e] at q
          dsimp only at q
          rw [if_pos c3] at q
          obtain ⟨hv, hq⟩ := q
          have lx : x1 < exB := by
            rw [hv]
            have := vi.2; omega
          refine ev_ite (fun _ => ?_) (fun z => absurd lx z)
          refine ev_gg ((by rw [hv]; exact vi)) ?_
          exact ev_ret ⟨rfl, fun _ => by rw [gI_a]; exact hv, cls_600 (l := ((Ds ++ [T]), pg, pp, r, L, Q, C)) hq, hx_600 hx⟩
        · have h1' : RfS S1 stT Ds pg pp r L Q C S1 := h1
          refine ev_mono (ev_hi (fun n => (kr_X12_patch n).1 _ _ _ _) (r_patch (d := D) (h := h1') (hd := by omega) (ha := ha) (hb := hb))) (fun b2 S2 q => ?_)
          obtain ⟨q, hx⟩ := q
          rw [if_pos c1, e] at q
          dsimp only at q
          rw [if_pos c3] at q
          obtain ⟨hb2, ht, hq⟩ := q
          exact ⟨ht, fun _ => hb2, hq, by rw [(hx 600 (by decide)).1]⟩
      · skip
        refine ⟨2, 0, (Ds, pg, pp, r, L, Q, C), by decide, fun z => absurd z (by decide), ?_, fun S1 h1 => ?_⟩
        · unfold f_L_patch
          dsimp only
          refine ev_gg (by first | omega | (constructor <;> omega)) ?_
          refine ev_gc (ev_hi (fun n => (kh_X11_patch n) _ _ _ _) (c_patch (d := D - 1) (h := hC) (hd := by omega) (ha := ha) (hb := hb))) (fun x1 S1 q => ?_)
          obtain ⟨q, hx⟩ := q
          rw [if_pos c1, e] at q
          dsimp only at q
          rw [if_neg c3] at q
          obtain ⟨hv, hq⟩ := q
          refine ev_ite (fun z => by omega) (fun _ => ?_)
          refine ev_ite (fun z => by omega) (fun _ => ?_)
          refine ev_ite (fun _ => ?_) (fun z => absurd hv z)
          exact ev_ret ⟨rfl, fun z => absurd z (by decide), hq, hx_of hx⟩
        · have h1' : RfS S1 stT Ds pg pp r L Q C S1 := h1
          refine ev_mono (ev_hi (fun n => (kr_X12_patch n).1 _ _ _ _) (r_patch (d := D) (h := h1') (hd := by omega) (ha := ha) (hb := hb))) (fun b2 S2 q => ?_)
          obtain ⟨q, hx⟩ := q
          rw [if_pos c1, e] at q
          dsimp only at q
          rw [if_neg c3] at q
          obtain ⟨ht, hq⟩ := q
          exact ⟨ht, fun z => absurd z (by decide), hq, by rw [(hx 600 (by decide)).1]⟩
  · skip
    refine ⟨1, 0, (Ds, pg, pp, r, L, Q, C), by decide, fun z => absurd z (by decide), ?_, fun S1 h1 => ?_⟩
    · unfold f_L_patch
      dsimp only
      refine ev_gg (by first | omega | (constructor <;> omega)) ?_
      refine ev_gc (ev_hi (fun n => (kh_X11_patch n) _ _ _ _) (c_patch (d := D - 1) (h := hC) (hd := by omega) (ha := ha) (hb := hb))) (fun x1 S1 q => ?_)
      obtain ⟨q, hx⟩ := q
      rw [if_neg c1] at q
      obtain ⟨hv, hq⟩ := q
      refine ev_ite (fun z => by omega) (fun _ => ?_)
      refine ev_ite (fun _ => ?_) (fun z => absurd hv z)
      exact ev_ret ⟨rfl, fun z => absurd z (by decide), hq, hx_of hx⟩
    · have h1' : RfS S1 stT Ds pg pp r L Q C S1 := h1
      refine ev_mono (ev_hi (fun n => (kr_X12_patch n).1 _ _ _ _) (r_patch (d := D) (h := h1') (hd := by omega) (ha := ha) (hb := hb))) (fun b2 S2 q => ?_)
      obtain ⟨q, hx⟩ := q
      rw [if_neg c1] at q
      obtain ⟨ht, hq⟩ := q
      exact ⟨ht, fun z => absurd z (by decide), hq, by rw [(hx 600 (by decide)).1]⟩
theorem pr_turn {a b : Int} (hD : 300 ≤ D) (hC : ClS stT Ds pg pp r L Q C S) (hR : RfS S stT Ds pg pp r L Q C S) (ha : inr a) (hb : inr b) : PR inr (fun n => f_L_turn n D 0 S [a, b]) (fun n S1 => f_X12_turn n D 0 S1 [a, b]) (Ds, pg, pp, r, L, Q, C) S := by
  have ex := ex_e
  have n4 := hC.1.2.1
  by_cases c1 : hasD Ds a ∧ hasD Ds b
  · by_cases c2 : Ds.length < 40 ∧ rk (atD' Ds b) = 4
    · cases e : tuT (atD' Ds b) (atD' Ds a) with
      | none =>
        refine ⟨2, 0, (Ds, pg, pp, r, L, Q, C), by decide, fun z => absurd z (by decide), ?_, fun S1 h1 => ?_⟩
        · unfold f_L_turn
          dsimp only
          refine ev_gg (by first | omega | (constructor <;> omega)) ?_
          refine ev_gc (ev_hi (fun n => (kh_X11_turn n) _ _ _ _) (c_turn (d := D - 1) (h := hC) (hd := by omega) (ha := ha) (hb := hb))) (fun x1 S1 q => ?_)
          obtain ⟨q, hx⟩ := q
          rw [if_pos c1, if_pos c2, e] at q
          obtain ⟨hv, hq⟩ := q
          refine ev_ite (fun z => by omega) (fun _ => ?_)
          refine ev_ite (fun z => by omega) (fun _ => ?_)
          refine ev_ite (fun _ => ?_) (fun z => absurd hv z)
          exact ev_ret ⟨rfl, fun z => absurd z (by decide), hq, hx_of hx⟩
        · have h1' : RfS S1 stT Ds pg pp r L Q C S1 := h1
          refine ev_mono (ev_hi (fun n => (kr_X12_turn n).1 _ _ _ _) (r_turn (d := D) (h := h1') (hd := by omega) (ha := ha) (hb := hb))) (fun b2 S2 q => ?_)
          obtain ⟨q, hx⟩ := q
          rw [if_pos c1, if_pos c2, e] at q
          obtain ⟨ht, hq⟩ := q
          exact ⟨ht, fun z => absurd z (by decide), hq, by rw [(hx 600 (by decide)).1]⟩
      | some T =>
        have vi : inr (Ds.length : Int) := by constructor <;> omega
        refine ⟨0, (Ds.length : Int), ((Ds ++ [T]), pg, pp, r, L, Q, C), by decide, fun _ => vi, ?_, fun S1 h1 => ?_⟩
        · unfold f_L_turn
          dsimp only
          refine ev_gg (by first | omega | (constructor <;> omega)) ?_
          refine ev_gc (ev_hi (fun n => (kh_X11_turn n) _ _ _ _) (c_turn (d := D - 1) (h := hC) (hd := by omega) (ha := ha) (hb := hb))) (fun x1 S1 q => ?_)
          obtain ⟨q, hx⟩ := q
          rw [if_pos c1, if_pos c2, e] at q
          obtain ⟨hv, hq⟩ := q
          have lx : x1 < exB := by
            rw [hv]
            have := vi.2; omega
          refine ev_ite (fun _ => ?_) (fun z => absurd lx z)
          refine ev_gg ((by rw [hv]; exact vi)) ?_
          exact ev_ret ⟨rfl, fun _ => by rw [gI_a]; exact hv, cls_600 (l := ((Ds ++ [T]), pg, pp, r, L, Q, C)) hq, hx_600 hx⟩
        · have h1' : RfS S1 stT Ds pg pp r L Q C S1 := h1
          refine ev_mono (ev_hi (fun n => (kr_X12_turn n).1 _ _ _ _) (r_turn (d := D) (h := h1') (hd := by omega) (ha := ha) (hb := hb))) (fun b2 S2 q => ?_)
          obtain ⟨q, hx⟩ := q
          rw [if_pos c1, if_pos c2, e] at q
          obtain ⟨hb2, ht, hq⟩ := q
          exact ⟨ht, fun _ => hb2, hq, by rw [(hx 600 (by decide)).1]⟩
    · skip
      refine ⟨2, 0, (Ds, pg, pp, r, L, Q, C), by decide, fun z => absurd z (by decide), ?_, fun S1 h1 => ?_⟩
      · unfold f_L_turn
        dsimp only
        refine ev_gg (by first | omega | (constructor <;> omega)) ?_
        refine ev_gc (ev_hi (fun n => (kh_X11_turn n) _ _ _ _) (c_turn (d := D - 1) (h := hC) (hd := by omega) (ha := ha) (hb := hb))) (fun x1 S1 q => ?_)
        obtain ⟨q, hx⟩ := q
        rw [if_pos c1, if_neg c2] at q
        obtain ⟨hv, hq⟩ := q
        refine ev_ite (fun z => by omega) (fun _ => ?_)
        refine ev_ite (fun z => by omega) (fun _ => ?_)
        refine ev_ite (fun _ => ?_) (fun z => absurd hv z)
        exact ev_ret ⟨rfl, fun z => absurd z (by decide), hq, hx_of hx⟩
      · have h1' : RfS S1 stT Ds pg pp r L Q C S1 := h1
        refine ev_mono (ev_hi (fun n => (kr_X12_turn n).1 _ _ _ _) (r_turn (d := D) (h := h1') (hd := by omega) (ha := ha) (hb := hb))) (fun b2 S2 q => ?_)
        obtain ⟨q, hx⟩ := q
        rw [if_pos c1, if_neg c2] at q
        obtain ⟨ht, hq⟩ := q
        exact ⟨ht, fun z => absurd z (by decide), hq, by rw [(hx 600 (by decide)).1]⟩
  · skip
    refine ⟨1, 0, (Ds, pg, pp, r, L, Q, C), by decide, fun z => absurd z (by decide), ?_, fun S1 h1 => ?_⟩
    · unfold f_L_turn
      dsimp only
      refine ev_gg (by first | omega | (constructor <;> omega)) ?_
      refine ev_gc (ev_hi (fun n => (kh_X11_turn n) _ _ _ _) (c_turn (d := D - 1) (h := hC) (hd := by omega) (ha := ha) (hb := hb))) (fun x1 S1 q => ?_)
      obtain ⟨q, hx⟩ := q
      rw [if_neg c1] at q
      obtain ⟨hv, hq⟩ := q
      refine ev_ite (fun z => by omega) (fun _ => ?_)
      refine ev_ite (fun _ => ?_) (fun z => absurd hv z)
      exact ev_ret ⟨rfl, fun z => absurd z (by decide), hq, hx_of hx⟩
    · have h1' : RfS S1 stT Ds pg pp r L Q C S1 := h1
      refine ev_mono (ev_hi (fun n => (kr_X12_turn n).1 _ _ _ _) (r_turn (d := D) (h := h1') (hd := by omega) (ha := ha) (hb := hb))) (fun b2 S2 q => ?_)
      obtain ⟨q, hx⟩ := q
      rw [if_neg c1] at q
      obtain ⟨ht, hq⟩ := q
      exact ⟨ht, fun z => absurd z (by decide), hq, by rw [(hx 600 (by decide)).1]⟩
theorem pr_read (hD : 300 ≤ D) (hC : ClS stT Ds pg pp r L Q C S) (hR : RfS S stT Ds pg pp r L Q C S)  : PR inr (fun n => f_L_read n D 0 S []) (fun n S1 => f_X12_read n D 0 S1 []) (Ds, pg, pp, r, L, Q, C) S := by
  have ex := ex_e
  have n4 := hC.1.2.1
  by_cases c1 : Ds.length < 40
  · cases e : rdA r pg with
    | inl w =>
      have wl : (w.length : Int) ≤ pg.length ∧ pg.length ≤ 400 := by
        have l4 := hC.2.1.2
        have hr := hC.2.2.2.1.2
        obtain ⟨x0, S2, q, _⟩ := rd_parseR (d := 2000) (S := S) (c2 := 424) (s := pg) (how := r) hC.2.2.2.2.2.2.2.2 ⟨by decide, by decide, by decide, by decide, (rf_pp hR).2.2, by omega⟩ hC.2.1.1 hr (by decide)
        have q := q.2.2
        rw [e] at q
        have q' : x0 = plI2 pg w ∧ 0 ≤ x0 ∧ x0 ≤ pg.length := q
        unfold plI2 at q'
        omega
      have vi : inr (-2 - ((pg.length : Int) - w.length)) := by constructor <;> omega
      refine ⟨0, (-2 - ((pg.length : Int) - w.length)), (Ds, [], pp, r, L, Q, C), by decide, fun _ => vi, ?_, fun S1 h1 => ?_⟩
      · unfold f_L_read
        dsimp only
        refine ev_gg (by first | omega | (constructor <;> omega)) ?_
        refine ev_gc (ev_hi (fun n => (kh_X11_read n) _ _) (c_read (d := D - 1) (h := hC) (hd := by omega) (hpg := (rf_pp hR).2.2))) (fun x1 S1 q => ?_)
        obtain ⟨q, hx⟩ := q
        rw [if_pos c1, e] at q
        obtain ⟨hv, hq⟩ := q
        have lx : x1 < exB := by
          rw [hv]
          have := vi.2; omega
        refine ev_ite (fun _ => ?_) (fun z => absurd lx z)
        refine ev_gg ((by rw [hv]; exact vi)) ?_
        exact ev_ret ⟨rfl, fun _ => by rw [gI_a]; exact hv, cls_600 (l := (Ds, [], pp, r, L, Q, C)) hq, hx_600 hx⟩
      · have h1' : RfS S1 stT Ds pg pp r L Q C S1 := h1
        refine ev_mono (ev_hi (fun n => (kr_X12_read n).1 _ _) (r_read (d := D) (h := h1') (hd := by omega))) (fun b2 S2 q => ?_)
        obtain ⟨q, hx⟩ := q
        rw [if_pos c1, e] at q
        obtain ⟨ht, hb2, hq⟩ := q
        exact ⟨ht, fun _ => hb2, hq, by rw [(hx 600 (by decide)).1]⟩
    | inr T =>
      have vi : inr (Ds.length : Int) := by constructor <;> omega
      refine ⟨0, (Ds.length : Int), ((Ds ++ [nrH (decide (r = 2)) 13 T]), [], pp, r, L, Q, C), by decide, fun _ => vi, ?_, fun S1 h1 => ?_⟩
      · unfold f_L_read
        dsimp only
        refine ev_gg (by first | omega | (constructor <;> omega)) ?_
        refine ev_gc (ev_hi (fun n => (kh_X11_read n) _ _) (c_read (d := D - 1) (h := hC) (hd := by omega) (hpg := (rf_pp hR).2.2))) (fun x1 S1 q => ?_)
        obtain ⟨q, hx⟩ := q
        rw [if_pos c1, e] at q
        obtain ⟨hv, hq⟩ := q
        have lx : x1 < exB := by
          rw [hv]
          have := vi.2; omega
        refine ev_ite (fun _ => ?_) (fun z => absurd lx z)
        refine ev_gg ((by rw [hv]; exact vi)) ?_
        exact ev_ret ⟨rfl, fun _ => by rw [gI_a]; exact hv, cls_600 (l := ((Ds ++ [nrH (decide (r = 2)) 13 T]), [], pp, r, L, Q, C)) hq, hx_600 hx⟩
      · have h1' : RfS S1 stT Ds pg pp r L Q C S1 := h1
        refine ev_mono (ev_hi (fun n => (kr_X12_read n).1 _ _) (r_read (d := D) (h := h1') (hd := by omega))) (fun b2 S2 q => ?_)
        obtain ⟨q, hx⟩ := q
        rw [if_pos c1, e] at q
        obtain ⟨ht, hb2, hq⟩ := q
        exact ⟨ht, fun _ => hb2, hq, by rw [(hx 600 (by decide)).1]⟩
  · skip
    refine ⟨1, 0, (Ds, pg, pp, r, L, Q, C), by decide, fun z => absurd z (by decide), ?_, fun S1 h1 => ?_⟩
    · unfold f_L_read
      dsimp only
      refine ev_gg (by first | omega | (constructor <;> omega)) ?_
      refine ev_gc (ev_hi (fun n => (kh_X11_read n) _ _) (c_read (d := D - 1) (h := hC) (hd := by omega) (hpg := (rf_pp hR).2.2))) (fun x1 S1 q => ?_)
      obtain ⟨q, hx⟩ := q
      rw [if_neg c1] at q
      obtain ⟨hv, hq⟩ := q
      refine ev_ite (fun z => by omega) (fun _ => ?_)
      refine ev_ite (fun _ => ?_) (fun z => absurd hv z)
      exact ev_ret ⟨rfl, fun z => absurd z (by decide), hq, hx_of hx⟩
    · have h1' : RfS S1 stT Ds pg pp r L Q C S1 := h1
      refine ev_mono (ev_hi (fun n => (kr_X12_read n).1 _ _) (r_read (d := D) (h := h1') (hd := by omega))) (fun b2 S2 q => ?_)
      obtain ⟨q, hx⟩ := q
      rw [if_neg c1] at q
      obtain ⟨ht, hq⟩ := q
      exact ⟨ht, fun z => absurd z (by decide), hq, by rw [(hx 600 (by decide)).1]⟩
end PRT
