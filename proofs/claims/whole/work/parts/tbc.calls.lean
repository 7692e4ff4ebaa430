/-! CALLS of both (check, columns, rows, grow, vary, sum, isSound, standard) -/
section PRS
variable {S : GS} {Ds : List (List ND)} {pg pp : List Int} {r : Int} {L : List Nat} {Q : List (List Int)} {C : List (Int × Int)} {D : Nat}
theorem pr_check {s a : Int} (hD : 300 ≤ D) (hC : ClS stT Ds pg pp r L Q C S) (hR : RfS S stT Ds pg pp r L Q C S) (hs : inr s) (ha : inr a) : PR inr (fun n => f_L_check n D 0 S [s, a]) (fun n S1 => f_X12_check n D 0 S1 [s, a]) (Ds, pg, pp, r, L, Q, C) S := by
  have ex := ex_e
  have n4 := hC.1.2.1
  by_cases c1 : hasD Ds s ∧ hasD Ds a
  · skip
    by_cases c2 : agB stT (atD' Ds s) = true ∧ (exaR (atD' Ds s) (atD' Ds a)).2.1 = false
    · skip
      have vi : inr ((exaR (atD' Ds s) (atD' Ds a)).2.2.length : Int) := by
        obtain ⟨x0, S2, q, _⟩ := r_check (d := D) (h := hR) (hd := by omega) (hs := hs) (ha := ha) (hself := std_self) (hsome := fun T dT => std_some dT) (hyes := fun T n dT e => std_yes dT e)
        rw [if_pos c1, if_pos c2] at q
        have b := q.2.2.2.2.2.2.2.2.1.2.1
        constructor <;> omega
      refine ⟨0, ((exaR (atD' Ds s) (atD' Ds a)).2.2.length : Int), (Ds, pg, pp, r, L, Q, (exaR (atD' Ds s) (atD' Ds a)).2.2), by decide, fun _ => vi, ?_, fun S1 h1 => ?_⟩
      · unfold f_L_check
        dsimp only
        refine ev_gg (by first | omega | (constructor <;> omega)) ?_
        refine ev_gc (ev_hi (fun n => (kh_X11_check n) _ _ _ _) (c_check (d := D - 1) (h := hC) (hd := by omega) (hs := hs) (ha := ha) (hT := std_doc))) (fun x1 S1 q => ?_)
        obtain ⟨q, hx⟩ := q
        rw [if_pos c1, if_pos c2] at q
        obtain ⟨hv, hq⟩ := q
        have lx : x1 < exB := by
          rw [hv]
          have := vi.2; omega
        refine ev_ite (fun _ => ?_) (fun z => absurd lx z)
        refine ev_gg ((by rw [hv]; exact vi)) ?_
        exact ev_ret ⟨rfl, fun _ => by rw [gI_a]; exact hv, cls_600 (l := (Ds, pg, pp, r, L, Q, (exaR (atD' Ds s) (atD' Ds a)).2.2)) hq, hx_600 hx⟩
      · have h1' : RfS S1 stT Ds pg pp r L Q C S1 := h1
        refine ev_mono (ev_hi (fun n => (kr_X12_check n).1 _ _ _ _) (r_check (d := D) (h := h1') (hd := by omega) (hs := hs) (ha := ha) (hself := std_self) (hsome := fun T dT => std_some dT) (hyes := fun T n dT e => std_yes dT e))) (fun b2 S2 q => ?_)
        obtain ⟨q, hx⟩ := q
        rw [if_pos c1, if_pos c2] at q
        obtain ⟨hb2, ht, hq⟩ := q
        exact ⟨ht, fun _ => hb2, hq, by rw [(hx 600 (by decide)).1]⟩
    · skip
      refine ⟨2, 0, (Ds, pg, pp, r, L, Q, C), by decide, fun z => absurd z (by decide), ?_, fun S1 h1 => ?_⟩
      · unfold f_L_check
        dsimp only
        refine ev_gg (by first | omega | (constructor <;> omega)) ?_
        refine ev_gc (ev_hi (fun n => (kh_X11_check n) _ _ _ _) (c_check (d := D - 1) (h := hC) (hd := by omega) (hs := hs) (ha := ha) (hT := std_doc))) (fun x1 S1 q => ?_)
        obtain ⟨q, hx⟩ := q
        rw [if_pos c1, if_neg c2] at q
        obtain ⟨hv, hq0⟩ := q
        have hq : ClS stT Ds pg pp r L Q C S1 := by first | exact hq0 | (rw [hq0]; exact hC)
        refine ev_ite (fun z => by omega) (fun _ => ?_)
        refine ev_ite (fun z => by omega) (fun _ => ?_)
        refine ev_ite (fun _ => ?_) (fun z => absurd hv z)
        exact ev_ret ⟨rfl, fun z => absurd z (by decide), hq, hx_of hx⟩
      · have h1' : RfS S1 stT Ds pg pp r L Q C S1 := h1
        refine ev_mono (ev_hi (fun n => (kr_X12_check n).1 _ _ _ _) (r_check (d := D) (h := h1') (hd := by omega) (hs := hs) (ha := ha) (hself := std_self) (hsome := fun T dT => std_some dT) (hyes := fun T n dT e => std_yes dT e))) (fun b2 S2 q => ?_)
        obtain ⟨q, hx⟩ := q
        rw [if_pos c1, if_neg c2] at q
        obtain ⟨ht, hq⟩ := q
        exact ⟨ht, fun z => absurd z (by decide), hq, by rw [(hx 600 (by decide)).1]⟩
  · skip
    refine ⟨1, 0, (Ds, pg, pp, r, L, Q, C), by decide, fun z => absurd z (by decide), ?_, fun S1 h1 => ?_⟩
    · unfold f_L_check
      dsimp only
      refine ev_gg (by first | omega | (constructor <;> omega)) ?_
      refine ev_gc (ev_hi (fun n => (kh_X11_check n) _ _ _ _) (c_check (d := D - 1) (h := hC) (hd := by omega) (hs := hs) (ha := ha) (hT := std_doc))) (fun x1 S1 q => ?_)
      obtain ⟨q, hx⟩ := q
      rw [if_neg c1] at q
      obtain ⟨hv, hq0⟩ := q
      have hq : ClS stT Ds pg pp r L Q C S1 := by first | exact hq0 | (rw [hq0]; exact hC)
      refine ev_ite (fun z => by omega) (fun _ => ?_)
      refine ev_ite (fun _ => ?_) (fun z => absurd hv z)
      exact ev_ret ⟨rfl, fun z => absurd z (by decide), hq, hx_of hx⟩
    · have h1' : RfS S1 stT Ds pg pp r L Q C S1 := h1
      refine ev_mono (ev_hi (fun n => (kr_X12_check n).1 _ _ _ _) (r_check (d := D) (h := h1') (hd := by omega) (hs := hs) (ha := ha) (hself := std_self) (hsome := fun T dT => std_some dT) (hyes := fun T n dT e => std_yes dT e))) (fun b2 S2 q => ?_)
      obtain ⟨q, hx⟩ := q
      rw [if_neg c1] at q
      obtain ⟨ht, hq⟩ := q
      exact ⟨ht, fun z => absurd z (by decide), hq, by rw [(hx 600 (by decide)).1]⟩
theorem pr_columns {a : Int} (hD : 300 ≤ D) (hC : ClS stT Ds pg pp r L Q C S) (hR : RfS S stT Ds pg pp r L Q C S) (ha : inr a) : PR inr (fun n => f_L_columns n D 0 S [a]) (fun n S1 => f_X12_columns n D 0 S1 [a]) (Ds, pg, pp, r, L, Q, C) S := by
  have ex := ex_e
  have n4 := hC.1.2.1
  by_cases c1 : hasD Ds a
  · skip
    by_cases c2 : rk (atD' Ds a) = 4 ∧ (∀ x ∈ kids (atD' Ds a) 0, nk (atD' Ds a) x = 5)
    · skip
      by_cases c3 : pOK (clT (atD' Ds a)) ∧ Ds.length < 40
      · skip
        have vi : inr (Ds.length : Int) := by constructor <;> omega
        refine ⟨0, (Ds.length : Int), ((Ds ++ [clT (atD' Ds a)]), pg, pp, r, L, Q, C), by decide, fun _ => vi, ?_, fun S1 h1 => ?_⟩
        · unfold f_L_columns
          dsimp only
          refine ev_gg (by first | omega | (constructor <;> omega)) ?_
          refine ev_gc (ev_hi (fun n => (kh_X11_columns n) _ _ _) (c_columns (d := D - 1) (h := hC) (hd := by omega) (ha := ha))) (fun x1 S1 q => ?_)
          obtain ⟨q, hx⟩ := q
          rw [if_pos c1, if_pos c2, if_pos c3] at q
          obtain ⟨hv, hq⟩ := q
          have lx : x1 < exB := by
            rw [hv]
            have := vi.2; omega
          refine ev_ite (fun _ => ?_) (fun z => absurd lx z)
          refine ev_gg ((by rw [hv]; exact vi)) ?_
          exact ev_ret ⟨rfl, fun _ => by rw [gI_a]; exact hv, cls_600 (l := ((Ds ++ [clT (atD' Ds a)]), pg, pp, r, L, Q, C)) hq, hx_600 hx⟩
        · have h1' : RfS S1 stT Ds pg pp r L Q C S1 := h1
          refine ev_mono (ev_hi (fun n => (kr_X12_columns n).1 _ _ _) (r_columns (d := D) (h := h1') (hd := by omega) (ha := ha))) (fun b2 S2 q => ?_)
          obtain ⟨q, hx⟩ := q
          rw [if_pos c1, if_pos c2, if_pos c3] at q
          obtain ⟨hb2, ht, hq⟩ := q
          exact ⟨ht, fun _ => hb2, hq, by rw [(hx 600 (by decide)).1]⟩
      · skip
        refine ⟨2, 0, (Ds, pg, pp, r, L, Q, C), by decide, fun z => absurd z (by decide), ?_, fun S1 h1 => ?_⟩
        · unfold f_L_columns
          dsimp only
          refine ev_gg (by first | omega | (constructor <;> omega)) ?_
          refine ev_gc (ev_hi (fun n => (kh_X11_columns n) _ _ _) (c_columns (d := D - 1) (h := hC) (hd := by omega) (ha := ha))) (fun x1 S1 q => ?_)
          obtain ⟨q, hx⟩ := q
          rw [if_pos c1, if_pos c2, if_neg c3] at q
          obtain ⟨hv, hq0⟩ := q
          have hq : ClS stT Ds pg pp r L Q C S1 := by first | exact hq0 | (rw [hq0]; exact hC)
          refine ev_ite (fun z => by omega) (fun _ => ?_)
          refine ev_ite (fun z => by omega) (fun _ => ?_)
          refine ev_ite (fun _ => ?_) (fun z => absurd hv z)
          exact ev_ret ⟨rfl, fun z => absurd z (by decide), hq, hx_of hx⟩
        · have h1' : RfS S1 stT Ds pg pp r L Q C S1 := h1
          refine ev_mono (ev_hi (fun n => (kr_X12_columns n).1 _ _ _) (r_columns (d := D) (h := h1') (hd := by omega) (ha := ha))) (fun b2 S2 q => ?_)
          obtain ⟨q, hx⟩ := q
          rw [if_pos c1, if_pos c2, if_neg c3] at q
          obtain ⟨ht, hq⟩ := q
          exact ⟨ht, fun z => absurd z (by decide), hq, by rw [(hx 600 (by decide)).1]⟩
    · skip
      refine ⟨2, 0, (Ds, pg, pp, r, L, Q, C), by decide, fun z => absurd z (by decide), ?_, fun S1 h1 => ?_⟩
      · unfold f_L_columns
        dsimp only
        refine ev_gg (by first | omega | (constructor <;> omega)) ?_
        refine ev_gc (ev_hi (fun n => (kh_X11_columns n) _ _ _) (c_columns (d := D - 1) (h := hC) (hd := by omega) (ha := ha))) (fun x1 S1 q => ?_)
        obtain ⟨q, hx⟩ := q
        rw [if_pos c1, if_neg c2] at q
        obtain ⟨hv, hq0⟩ := q
        have hq : ClS stT Ds pg pp r L Q C S1 := by first | exact hq0 | (rw [hq0]; exact hC)
        refine ev_ite (fun z => by omega) (fun _ => ?_)
        refine ev_ite (fun z => by omega) (fun _ => ?_)
        refine ev_ite (fun _ => ?_) (fun z => absurd hv z)
        exact ev_ret ⟨rfl, fun z => absurd z (by decide), hq, hx_of hx⟩
      · have h1' : RfS S1 stT Ds pg pp r L Q C S1 := h1
        refine ev_mono (ev_hi (fun n => (kr_X12_columns n).1 _ _ _) (r_columns (d := D) (h := h1') (hd := by omega) (ha := ha))) (fun b2 S2 q => ?_)
        obtain ⟨q, hx⟩ := q
        rw [if_pos c1, if_neg c2] at q
        obtain ⟨ht, hq⟩ := q
        exact ⟨ht, fun z => absurd z (by decide), hq, by rw [(hx 600 (by decide)).1]⟩
  · skip
    refine ⟨1, 0, (Ds, pg, pp, r, L, Q, C), by decide, fun z => absurd z (by decide), ?_, fun S1 h1 => ?_⟩
    · unfold f_L_columns
      dsimp only
      refine ev_gg (by first | omega | (constructor <;> omega)) ?_
      refine ev_gc (ev_hi (fun n => (kh_X11_columns n) _ _ _) (c_columns (d := D - 1) (h := hC) (hd := by omega) (ha := ha))) (fun x1 S1 q => ?_)
      obtain ⟨q, hx⟩ := q
      rw [if_neg c1] at q
      obtain ⟨hv, hq0⟩ := q
      have hq : ClS stT Ds pg pp r L Q C S1 := by first | exact hq0 | (rw [hq0]; exact hC)
      refine ev_ite (fun z => by omega) (fun _ => ?_)
      refine ev_ite (fun _ => ?_) (fun z => absurd hv z)
      exact ev_ret ⟨rfl, fun z => absurd z (by decide), hq, hx_of hx⟩
    · have h1' : RfS S1 stT Ds pg pp r L Q C S1 := h1
      refine ev_mono (ev_hi (fun n => (kr_X12_columns n).1 _ _ _) (r_columns (d := D) (h := h1') (hd := by omega) (ha := ha))) (fun b2 S2 q => ?_)
      obtain ⟨q, hx⟩ := q
      rw [if_neg c1] at q
      obtain ⟨ht, hq⟩ := q
      exact ⟨ht, fun z => absurd z (by decide), hq, by rw [(hx 600 (by decide)).1]⟩
theorem pr_rows {a : Int} (hD : 300 ≤ D) (hC : ClS stT Ds pg pp r L Q C S) (hR : RfS S stT Ds pg pp r L Q C S) (ha : inr a) : PR inr (fun n => f_L_rows n D 0 S [a]) (fun n S1 => f_X12_rows n D 0 S1 [a]) (Ds, pg, pp, r, L, Q, C) S := by
  have ex := ex_e
  have n4 := hC.1.2.1
  by_cases c1 : hasD Ds a
  · skip
    by_cases c2 : tbQ (atD' Ds a)
    · skip
      by_cases c3 : pOK (rwT (atD' Ds a)) ∧ Ds.length < 40
      · skip
        have vi : inr (Ds.length : Int) := by constructor <;> omega
        refine ⟨0, (Ds.length : Int), ((Ds ++ [rwT (atD' Ds a)]), pg, pp, r, L, Q, C), by decide, fun _ => vi, ?_, fun S1 h1 => ?_⟩
        · unfold f_L_rows
          dsimp only
          refine ev_gg (by first | omega | (constructor <;> omega)) ?_
          refine ev_gc (ev_hi (fun n => (kh_X11_rows n) _ _ _) (c_rows (d := D - 1) (h := hC) (hd := by omega) (ha := ha))) (fun x1 S1 q => ?_)
          obtain ⟨q, hx⟩ := q
          rw [if_pos c1, if_pos c2, if_pos c3] at q
          obtain ⟨hv, hq⟩ := q
          have lx : x1 < exB := by
            rw [hv]
            have := vi.2; omega
          refine ev_ite (fun _ => ?_) (fun z => absurd lx z)
          refine ev_gg ((by rw [hv]; exact vi)) ?_
          exact ev_ret ⟨rfl, fun _ => by rw [gI_a]; exact hv, cls_600 (l := ((Ds ++ [rwT (atD' Ds a)]), pg, pp, r, L, Q, C)) hq, hx_600 hx⟩
        · have h1' : RfS S1 stT Ds pg pp r L Q C S1 := h1
          refine ev_mono (ev_hi (fun n => (kr_X12_rows n).1 _ _ _) (r_rows (d := D) (h := h1') (hd := by omega) (ha := ha))) (fun b2 S2 q => ?_)
          obtain ⟨q, hx⟩ := q
          rw [if_pos c1, if_pos c2, if_pos c3] at q
          obtain ⟨hb2, ht, hq⟩ := q
          exact ⟨ht, fun _ => hb2, hq, by rw [(hx 600 (by decide)).1]⟩
      · skip
        refine ⟨2, 0, (Ds, pg, pp, r, L, Q, C), by decide, fun z => absurd z (by decide), ?_, fun S1 h1 => ?_⟩
        · unfold f_L_rows
          dsimp only
          refine ev_gg (by first | omega | (constructor <;> omega)) ?_
          refine ev_gc (ev_hi (fun n => (kh_X11_rows n) _ _ _) (c_rows (d := D - 1) (h := hC) (hd := by omega) (ha := ha))) (fun x1 S1 q => ?_)
          obtain ⟨q, hx⟩ := q
          rw [if_pos c1, if_pos c2, if_neg c3] at q
          obtain ⟨hv, hq0⟩ := q
          have hq : ClS stT Ds pg pp r L Q C S1 := by first | exact hq0 | (rw [hq0]; exact hC)
          refine ev_ite (fun z => by omega) (fun _ => ?_)
          refine ev_ite (fun z => by omega) (fun _ => ?_)
          refine ev_ite (fun _ => ?_) (fun z => absurd hv z)
          exact ev_ret ⟨rfl, fun z => absurd z (by decide), hq, hx_of hx⟩
        · have h1' : RfS S1 stT Ds pg pp r L Q C S1 := h1
          refine ev_mono (ev_hi (fun n => (kr_X12_rows n).1 _ _ _) (r_rows (d := D) (h := h1') (hd := by omega) (ha := ha))) (fun b2 S2 q => ?_)
          obtain ⟨q, hx⟩ := q
          rw [if_pos c1, if_pos c2, if_neg c3] at q
          obtain ⟨ht, hq⟩ := q
          exact ⟨ht, fun z => absurd z (by decide), hq, by rw [(hx 600 (by decide)).1]⟩
    · skip
      refine ⟨2, 0, (Ds, pg, pp, r, L, Q, C), by decide, fun z => absurd z (by decide), ?_, fun S1 h1 => ?_⟩
      · unfold f_L_rows
        dsimp only
        refine ev_gg (by first | omega | (constructor <;> omega)) ?_
        refine ev_gc (ev_hi (fun n => (kh_X11_rows n) _ _ _) (c_rows (d := D - 1) (h := hC) (hd := by omega) (ha := ha))) (fun x1 S1 q => ?_)
        obtain ⟨q, hx⟩ := q
        rw [if_pos c1, if_neg c2] at q
        obtain ⟨hv, hq0⟩ := q
        have hq : ClS stT Ds pg pp r L Q C S1 := by first | exact hq0 | (rw [hq0]; exact hC)
        refine ev_ite (fun z => by omega) (fun _ => ?_)
        refine ev_ite (fun z => by omega) (fun _ => ?_)
        refine ev_ite (fun _ => ?_) (fun z => absurd hv z)
        exact ev_ret ⟨rfl, fun z => absurd z (by decide), hq, hx_of hx⟩
      · have h1' : RfS S1 stT Ds pg pp r L Q C S1 := h1
        refine ev_mono (ev_hi (fun n => (kr_X12_rows n).1 _ _ _) (r_rows (d := D) (h := h1') (hd := by omega) (ha := ha))) (fun b2 S2 q => ?_)
        obtain ⟨q, hx⟩ := q
        rw [if_pos c1, if_neg c2] at q
        obtain ⟨ht, hq⟩ := q
        exact ⟨ht, fun z => absurd z (by decide), hq, by rw [(hx 600 (by decide)).1]⟩
  · skip
    refine ⟨1, 0, (Ds, pg, pp, r, L, Q, C), by decide, fun z => absurd z (by decide), ?_, fun S1 h1 => ?_⟩
    · unfold f_L_rows
      dsimp only
      refine ev_gg (by first | omega | (constructor <;> omega)) ?_
      refine ev_gc (ev_hi (fun n => (kh_X11_rows n) _ _ _) (c_rows (d := D - 1) (h := hC) (hd := by omega) (ha := ha))) (fun x1 S1 q => ?_)
      obtain ⟨q, hx⟩ := q
      rw [if_neg c1] at q
      obtain ⟨hv, hq0⟩ := q
      have hq : ClS stT Ds pg pp r L Q C S1 := by first | exact hq0 | (rw [hq0]; exact hC)
      refine ev_ite (fun z => by omega) (fun _ => ?_)
      refine ev_ite (fun _ => ?_) (fun z => absurd hv z)
      exact ev_ret ⟨rfl, fun z => absurd z (by decide), hq, hx_of hx⟩
    · have h1' : RfS S1 stT Ds pg pp r L Q C S1 := h1
      refine ev_mono (ev_hi (fun n => (kr_X12_rows n).1 _ _ _) (r_rows (d := D) (h := h1') (hd := by omega) (ha := ha))) (fun b2 S2 q => ?_)
      obtain ⟨q, hx⟩ := q
      rw [if_neg c1] at q
      obtain ⟨ht, hq⟩ := q
      exact ⟨ht, fun z => absurd z (by decide), hq, by rw [(hx 600 (by decide)).1]⟩
theorem pr_grow {a z : Int} (hD : 300 ≤ D) (hC : ClS stT Ds pg pp r L Q C S) (hR : RfS S stT Ds pg pp r L Q C S) (ha : inr a) (hz : inr z) : PR inr (fun n => f_L_grow n D 0 S [a, z]) (fun n S1 => f_X12_grow n D 0 S1 [a, z]) (Ds, pg, pp, r, L, Q, C) S := by
  have ex := ex_e
  have n4 := hC.1.2.1
  by_cases c1 : (0 ≤ a ∧ a < 65536) ∧ 1 ≤ z ∧ z ≤ 3
  · skip
    by_cases c2 : Ds.length < 40
    · skip
      have vi : inr (Ds.length : Int) := by constructor <;> omega
      refine ⟨0, (Ds.length : Int), ((Ds ++ [grw a z]), pg, pp, r, L, Q, C), by decide, fun _ => vi, ?_, fun S1 h1 => ?_⟩
      · unfold f_L_grow
        dsimp only
        refine ev_gg (by first | omega | (constructor <;> omega)) ?_
        refine ev_gc (ev_hi (fun n => (kh_X11_grow n) _ _ _ _) (c_grow (d := D - 1) (h := hC) (hd := by omega) (ha := ha) (hz := hz))) (fun x1 S1 q => ?_)
        obtain ⟨q, hx⟩ := q
        rw [if_pos c1, if_pos c2] at q
        obtain ⟨hv, hq⟩ := q
        have lx : x1 < exB := by
          rw [hv]
          have := vi.2; omega
        refine ev_ite (fun _ => ?_) (fun z => absurd lx z)
        refine ev_gg ((by rw [hv]; exact vi)) ?_
        exact ev_ret ⟨rfl, fun _ => by rw [gI_a]; exact hv, cls_600 (l := ((Ds ++ [grw a z]), pg, pp, r, L, Q, C)) hq, hx_600 hx⟩
      · have h1' : RfS S1 stT Ds pg pp r L Q C S1 := h1
        refine ev_mono (ev_hi (fun n => (kr_X12_grow n).1 _ _ _ _) (r_grow (d := D) (h := h1') (hd := by omega) (ha := ha) (hz := hz))) (fun b2 S2 q => ?_)
        obtain ⟨q, hx⟩ := q
        rw [if_pos c1, if_pos c2] at q
        obtain ⟨hb2, ht, hq⟩ := q
        exact ⟨ht, fun _ => hb2, hq, by rw [(hx 600 (by decide)).1]⟩
    · skip
      refine ⟨2, 0, (Ds, pg, pp, r, L, Q, C), by decide, fun z => absurd z (by decide), ?_, fun S1 h1 => ?_⟩
      · unfold f_L_grow
        dsimp only
        refine ev_gg (by first | omega | (constructor <;> omega)) ?_
        refine ev_gc (ev_hi (fun n => (kh_X11_grow n) _ _ _ _) (c_grow (d := D - 1) (h := hC) (hd := by omega) (ha := ha) (hz := hz))) (fun x1 S1 q => ?_)
        obtain ⟨q, hx⟩ := q
        rw [if_pos c1, if_neg c2] at q
        obtain ⟨hv, hq0⟩ := q
        have hq : ClS stT Ds pg pp r L Q C S1 := by first | exact hq0 | (rw [hq0]; exact hC)
        refine ev_ite (fun z => by omega) (fun _ => ?_)
        refine ev_ite (fun z => by omega) (fun _ => ?_)
        refine ev_ite (fun _ => ?_) (fun z => absurd hv z)
        exact ev_ret ⟨rfl, fun z => absurd z (by decide), hq, hx_of hx⟩
      · have h1' : RfS S1 stT Ds pg pp r L Q C S1 := h1
        refine ev_mono (ev_hi (fun n => (kr_X12_grow n).1 _ _ _ _) (r_grow (d := D) (h := h1') (hd := by omega) (ha := ha) (hz := hz))) (fun b2 S2 q => ?_)
        obtain ⟨q, hx⟩ := q
        rw [if_pos c1, if_neg c2] at q
        obtain ⟨ht, hq⟩ := q
        exact ⟨ht, fun z => absurd z (by decide), hq, by rw [(hx 600 (by decide)).1]⟩
  · skip
    refine ⟨1, 0, (Ds, pg, pp, r, L, Q, C), by decide, fun z => absurd z (by decide), ?_, fun S1 h1 => ?_⟩
    · unfold f_L_grow
      dsimp only
      refine ev_gg (by first | omega | (constructor <;> omega)) ?_
      refine ev_gc (ev_hi (fun n => (kh_X11_grow n) _ _ _ _) (c_grow (d := D - 1) (h := hC) (hd := by omega) (ha := ha) (hz := hz))) (fun x1 S1 q => ?_)
      obtain ⟨q, hx⟩ := q
      rw [if_neg c1] at q
      obtain ⟨hv, hq0⟩ := q
      have hq : ClS stT Ds pg pp r L Q C S1 := by first | exact hq0 | (rw [hq0]; exact hC)
      refine ev_ite (fun z => by omega) (fun _ => ?_)
      refine ev_ite (fun _ => ?_) (fun z => absurd hv z)
      exact ev_ret ⟨rfl, fun z => absurd z (by decide), hq, hx_of hx⟩
    · have h1' : RfS S1 stT Ds pg pp r L Q C S1 := h1
      refine ev_mono (ev_hi (fun n => (kr_X12_grow n).1 _ _ _ _) (r_grow (d := D) (h := h1') (hd := by omega) (ha := ha) (hz := hz))) (fun b2 S2 q => ?_)
      obtain ⟨q, hx⟩ := q
      rw [if_neg c1] at q
      obtain ⟨ht, hq⟩ := q
      exact ⟨ht, fun z => absurd z (by decide), hq, by rw [(hx 600 (by decide)).1]⟩
theorem pr_vary {a z : Int} (hD : 300 ≤ D) (hC : ClS stT Ds pg pp r L Q C S) (hR : RfS S stT Ds pg pp r L Q C S) (ha : inr a) (hz : inr z) : PR inr (fun n => f_L_vary n D 0 S [a, z]) (fun n S1 => f_X12_vary n D 0 S1 [a, z]) (Ds, pg, pp, r, L, Q, C) S := by
  have ex := ex_e
  have n4 := hC.1.2.1
  by_cases c1 : hasD Ds a
  · skip
    by_cases c2 : 0 ≤ z ∧ z < 65536
    · skip
      by_cases c3 : pOK (vrW (atD' Ds a) z) ∧ Ds.length < 40
      · skip
        have vi : inr (Ds.length : Int) := by constructor <;> omega
        refine ⟨0, (Ds.length : Int), ((Ds ++ [vrW (atD' Ds a) z]), pg, pp, r, L, Q, C), by decide, fun _ => vi, ?_, fun S1 h1 => ?_⟩
        · unfold f_L_vary
          dsimp only
          refine ev_gg (by first | omega | (constructor <;> omega)) ?_
          refine ev_gc (ev_hi (fun n => (kh_X11_vary n) _ _ _ _) (c_vary (d := D - 1) (h := hC) (hd := by omega) (ha := ha) (hz := hz))) (fun x1 S1 q => ?_)
          obtain ⟨q, hx⟩ := q
          rw [if_pos c1, if_pos c2, if_pos c3] at q
          obtain ⟨hv, hq⟩ := q
          have lx : x1 < exB := by
            rw [hv]
            have := vi.2; omega
          refine ev_ite (fun _ => ?_) (fun z => absurd lx z)
          refine ev_gg ((by rw [hv]; exact vi)) ?_
          exact ev_ret ⟨rfl, fun _ => by rw [gI_a]; exact hv, cls_600 (l := ((Ds ++ [vrW (atD' Ds a) z]), pg, pp, r, L, Q, C)) hq, hx_600 hx⟩
        · have h1' : RfS S1 stT Ds pg pp r L Q C S1 := h1
          refine ev_mono (ev_hi (fun n => (kr_X12_vary n).1 _ _ _ _) (r_vary (d := D) (h := h1') (hd := by omega) (ha := ha) (hz := hz))) (fun b2 S2 q => ?_)
          obtain ⟨q, hx⟩ := q
          rw [if_pos c1, if_pos c2, if_pos c3] at q
          obtain ⟨hb2, ht, hq⟩ := q
          exact ⟨ht, fun _ => hb2, hq, by rw [(hx 600 (by decide)).1]⟩
      · skip
        refine ⟨3, 0, (Ds, pg, pp, r, L, Q, C), by decide, fun z => absurd z (by decide), ?_, fun S1 h1 => ?_⟩
        · unfold f_L_vary
          dsimp only
          refine ev_gg (by first | omega | (constructor <;> omega)) ?_
          refine ev_gc (ev_hi (fun n => (kh_X11_vary n) _ _ _ _) (c_vary (d := D - 1) (h := hC) (hd := by omega) (ha := ha) (hz := hz))) (fun x1 S1 q => ?_)
          obtain ⟨q, hx⟩ := q
          rw [if_pos c1, if_pos c2, if_neg c3] at q
          obtain ⟨hv, hq0⟩ := q
          have hq : ClS stT Ds pg pp r L Q C S1 := by first | exact hq0 | (rw [hq0]; exact hC)
          refine ev_ite (fun z => by omega) (fun _ => ?_)
          refine ev_ite (fun z => by omega) (fun _ => ?_)
          refine ev_ite (fun z => by omega) (fun _ => ?_)
          refine ev_ite (fun _ => ?_) (fun z => absurd hv z)
          exact ev_ret ⟨rfl, fun z => absurd z (by decide), hq, hx_of hx⟩
        · have h1' : RfS S1 stT Ds pg pp r L Q C S1 := h1
          refine ev_mono (ev_hi (fun n => (kr_X12_vary n).1 _ _ _ _) (r_vary (d := D) (h := h1') (hd := by omega) (ha := ha) (hz := hz))) (fun b2 S2 q => ?_)
          obtain ⟨q, hx⟩ := q
          rw [if_pos c1, if_pos c2, if_neg c3] at q
          obtain ⟨ht, hq⟩ := q
          exact ⟨ht, fun z => absurd z (by decide), hq, by rw [(hx 600 (by decide)).1]⟩
    · skip
      refine ⟨2, 0, (Ds, pg, pp, r, L, Q, C), by decide, fun z => absurd z (by decide), ?_, fun S1 h1 => ?_⟩
      · unfold f_L_vary
        dsimp only
        refine ev_gg (by first | omega | (constructor <;> omega)) ?_
        refine ev_gc (ev_hi (fun n => (kh_X11_vary n) _ _ _ _) (c_vary (d := D - 1) (h := hC) (hd := by omega) (ha := ha) (hz := hz))) (fun x1 S1 q => ?_)
        obtain ⟨q, hx⟩ := q
        rw [if_pos c1, if_neg c2] at q
        obtain ⟨hv, hq0⟩ := q
        have hq : ClS stT Ds pg pp r L Q C S1 := by first | exact hq0 | (rw [hq0]; exact hC)
        refine ev_ite (fun z => by omega) (fun _ => ?_)
        refine ev_ite (fun z => by omega) (fun _ => ?_)
        refine ev_ite (fun _ => ?_) (fun z => absurd hv z)
        exact ev_ret ⟨rfl, fun z => absurd z (by decide), hq, hx_of hx⟩
      · have h1' : RfS S1 stT Ds pg pp r L Q C S1 := h1
        refine ev_mono (ev_hi (fun n => (kr_X12_vary n).1 _ _ _ _) (r_vary (d := D) (h := h1') (hd := by omega) (ha := ha) (hz := hz))) (fun b2 S2 q => ?_)
        obtain ⟨q, hx⟩ := q
        rw [if_pos c1, if_neg c2] at q
        obtain ⟨ht, hq⟩ := q
        exact ⟨ht, fun z => absurd z (by decide), hq, by rw [(hx 600 (by decide)).1]⟩
  · skip
    refine ⟨1, 0, (Ds, pg, pp, r, L, Q, C), by decide, fun z => absurd z (by decide), ?_, fun S1 h1 => ?_⟩
    · unfold f_L_vary
      dsimp only
      refine ev_gg (by first | omega | (constructor <;> omega)) ?_
      refine ev_gc (ev_hi (fun n => (kh_X11_vary n) _ _ _ _) (c_vary (d := D - 1) (h := hC) (hd := by omega) (ha := ha) (hz := hz))) (fun x1 S1 q => ?_)
      obtain ⟨q, hx⟩ := q
      rw [if_neg c1] at q
      obtain ⟨hv, hq0⟩ := q
      have hq : ClS stT Ds pg pp r L Q C S1 := by first | exact hq0 | (rw [hq0]; exact hC)
      refine ev_ite (fun z => by omega) (fun _ => ?_)
      refine ev_ite (fun _ => ?_) (fun z => absurd hv z)
      exact ev_ret ⟨rfl, fun z => absurd z (by decide), hq, hx_of hx⟩
    · have h1' : RfS S1 stT Ds pg pp r L Q C S1 := h1
      refine ev_mono (ev_hi (fun n => (kr_X12_vary n).1 _ _ _ _) (r_vary (d := D) (h := h1') (hd := by omega) (ha := ha) (hz := hz))) (fun b2 S2 q => ?_)
      obtain ⟨q, hx⟩ := q
      rw [if_neg c1] at q
      obtain ⟨ht, hq⟩ := q
      exact ⟨ht, fun z => absurd z (by decide), hq, by rw [(hx 600 (by decide)).1]⟩
theorem pr_sum {w : Int} (hD : 300 ≤ D) (hC : ClS stT Ds pg pp r L Q C S) (hR : RfS S stT Ds pg pp r L Q C S) (hw : inr w) : PR inr (fun n => f_L_sum n D 0 S [w]) (fun n S1 => f_X12_sum n D 0 S1 [w]) (Ds, pg, pp, r, L, Q, C) S := by
  have ex := ex_e
  have n4 := hC.1.2.1
  by_cases c1 : 0 ≤ w ∧ w ≤ 6
  · skip
    have vi : inr (if w = 0 then (Ds.length : Int) else if w = 1 then (pg.length : Int) else if w = 2 then (pp.length : Int) else if w = 3 then r else if w = 4 then (L.length : Int) else if w = 5 then (C.length : Int) else (szs Ds : Int)) := by
      have b1 := hR.2.1.2.1
      have b2 := hR.2.2.1.2.1
      have b3 := hR.2.2.2.1.2
      have b4 := hR.2.2.2.2.1.2.1
      have b5 := hR.2.2.2.2.2.2.1.2.1
      have b6 := szs_le Ds (fun V hV => by
        obtain ⟨i, hi, e⟩ := List.getElem_of_mem hV
        have d := (hC.1.2.2 i hi).2.2.2.1
        rw [List.getD_eq_getElem?_getD, List.getElem?_eq_getElem hi] at d
        rw [← e]
        exact d)
      repeat' split
      all_goals (constructor <;> omega)
    refine ⟨0, (if w = 0 then (Ds.length : Int) else if w = 1 then (pg.length : Int) else if w = 2 then (pp.length : Int) else if w = 3 then r else if w = 4 then (L.length : Int) else if w = 5 then (C.length : Int) else (szs Ds : Int)), (Ds, pg, pp, r, L, Q, C), by decide, fun _ => vi, ?_, fun S1 h1 => ?_⟩
    · unfold f_L_sum
      dsimp only
      refine ev_gg (by first | omega | (constructor <;> omega)) ?_
      refine ev_gc (ev_hi (fun n => (kh_X11_sum n) _ _ _) (c_sum (d := D - 1) (h := hC) (hd := by omega) (hw := hw))) (fun x1 S1 q => ?_)
      obtain ⟨q, hx⟩ := q
      obtain ⟨hv, hS⟩ := q
      rw [if_pos c1] at hv
      have hq : ClS stT Ds pg pp r L Q C S1 := by rw [hS]; exact hC
      have lx : x1 < exB := by
        rw [hv]
        have := vi.2; omega
      refine ev_ite (fun _ => ?_) (fun z => absurd lx z)
      refine ev_gg ((by rw [hv]; exact vi)) ?_
      exact ev_ret ⟨rfl, fun _ => by rw [gI_a]; exact hv, cls_600 (l := (Ds, pg, pp, r, L, Q, C)) hq, hx_600 hx⟩
    · have h1' : RfS S1 stT Ds pg pp r L Q C S1 := h1
      refine ev_mono (ev_hi (fun n => (kr_X12_sum n).1 _ _ _) (r_sum (d := D) (h := h1') (hd := by omega) (hw := hw))) (fun b2 S2 q => ?_)
      obtain ⟨q, hx⟩ := q
      obtain ⟨q, hq⟩ := q
      rw [if_pos c1] at q
      obtain ⟨hb2, ht⟩ := q
      exact ⟨ht, fun _ => hb2, hq, by rw [(hx 600 (by decide)).1]⟩
  · skip
    refine ⟨1, 0, (Ds, pg, pp, r, L, Q, C), by decide, fun z => absurd z (by decide), ?_, fun S1 h1 => ?_⟩
    · unfold f_L_sum
      dsimp only
      refine ev_gg (by first | omega | (constructor <;> omega)) ?_
      refine ev_gc (ev_hi (fun n => (kh_X11_sum n) _ _ _) (c_sum (d := D - 1) (h := hC) (hd := by omega) (hw := hw))) (fun x1 S1 q => ?_)
      obtain ⟨q, hx⟩ := q
      obtain ⟨hv, hS⟩ := q
      rw [if_neg c1] at hv
      have hq : ClS stT Ds pg pp r L Q C S1 := by rw [hS]; exact hC
      refine ev_ite (fun z => by omega) (fun _ => ?_)
      refine ev_ite (fun _ => ?_) (fun z => absurd hv z)
      exact ev_ret ⟨rfl, fun z => absurd z (by decide), hq, hx_of hx⟩
    · have h1' : RfS S1 stT Ds pg pp r L Q C S1 := h1
      refine ev_mono (ev_hi (fun n => (kr_X12_sum n).1 _ _ _) (r_sum (d := D) (h := h1') (hd := by omega) (hw := hw))) (fun b2 S2 q => ?_)
      obtain ⟨q, hx⟩ := q
      obtain ⟨q, hq⟩ := q
      rw [if_neg c1] at q
      have ht := q
      exact ⟨ht, fun z => absurd z (by decide), hq, by rw [(hx 600 (by decide)).1]⟩
theorem pr_isSound {a : Int} (hD : 300 ≤ D) (hC : ClS stT Ds pg pp r L Q C S) (hR : RfS S stT Ds pg pp r L Q C S) (ha : inr a) : PR (fun x : Int => x = 0 ∨ x = 1) (fun n => f_L_isSound n D 0 S [a]) (fun n S1 => f_X12_isSound n D 0 S1 [a]) (Ds, pg, pp, r, L, Q, C) S := by
  have ex := ex_e
  have n4 := hC.1.2.1
  by_cases c1 : hasD Ds a
  · skip
    have vi : (fun x : Int => x = 0 ∨ x = 1) (1 : Int) := Or.inr rfl
    refine ⟨0, (1 : Int), (Ds, pg, pp, r, L, Q, C), by decide, fun _ => vi, ?_, fun S1 h1 => ?_⟩
    · unfold f_L_isSound
      dsimp only
      refine ev_gg (by first | omega | (constructor <;> omega)) ?_
      refine ev_gc (ev_hi (fun n => (kh_X11_isSound n).1 _ _ _) (c_isSound (d := D - 1) (h := hC) (hd := by omega) (ha := ha))) (fun x1 S1 q => ?_)
      obtain ⟨q, hx⟩ := q
      obtain ⟨hv, hq⟩ := q
      rw [if_pos c1] at hv
      have lx : x1 < exB := by
        rw [hv]
        omega
      refine ev_ite (fun _ => ?_) (fun z => absurd lx z)
      refine ev_gg ((by rw [hv]; exact vi)) ?_
      exact ev_ret ⟨rfl, fun _ => by rw [gI_a]; exact hv, cls_600 (l := (Ds, pg, pp, r, L, Q, C)) hq, hx_600 hx⟩
    · have h1' : RfS S1 stT Ds pg pp r L Q C S1 := h1
      refine ev_mono (ev_hi (fun n => (kr_X12_isSound n) _ _ _) (r_isSound (d := D) (h := h1') (hd := by omega) (ha := ha))) (fun b2 S2 q => ?_)
      obtain ⟨q, hx⟩ := q
      obtain ⟨q, hq⟩ := q
      rw [if_pos c1] at q
      obtain ⟨hb2, ht⟩ := q
      exact ⟨ht, fun _ => hb2, hq, by rw [(hx 600 (by decide)).1]⟩
  · skip
    refine ⟨1, 0, (Ds, pg, pp, r, L, Q, C), by decide, fun z => absurd z (by decide), ?_, fun S1 h1 => ?_⟩
    · unfold f_L_isSound
      dsimp only
      refine ev_gg (by first | omega | (constructor <;> omega)) ?_
      refine ev_gc (ev_hi (fun n => (kh_X11_isSound n).1 _ _ _) (c_isSound (d := D - 1) (h := hC) (hd := by omega) (ha := ha))) (fun x1 S1 q => ?_)
      obtain ⟨q, hx⟩ := q
      obtain ⟨hv, hq⟩ := q
      rw [if_neg c1] at hv
      refine ev_ite (fun z => by omega) (fun _ => ?_)
      refine ev_ite (fun _ => ?_) (fun z => absurd hv z)
      exact ev_ret ⟨rfl, fun z => absurd z (by decide), hq, hx_of hx⟩
    · have h1' : RfS S1 stT Ds pg pp r L Q C S1 := h1
      refine ev_mono (ev_hi (fun n => (kr_X12_isSound n) _ _ _) (r_isSound (d := D) (h := h1') (hd := by omega) (ha := ha))) (fun b2 S2 q => ?_)
      obtain ⟨q, hx⟩ := q
      obtain ⟨q, hq⟩ := q
      rw [if_neg c1] at q
      have ht := q
      exact ⟨ht, fun z => absurd z (by decide), hq, by rw [(hx 600 (by decide)).1]⟩
theorem pr_standard (hD : 300 ≤ D) (hC : ClS stT Ds pg pp r L Q C S) (hR : RfS S stT Ds pg pp r L Q C S)  : PR inr (fun n => f_L_standard n D 0 S []) (fun n S1 => f_X12_standard n D 0 S1 []) (Ds, pg, pp, r, L, Q, C) S := by
  have ex := ex_e
  have n4 := hC.1.2.1
  by_cases c1 : Ds.length < 40
  · skip
    have vi : inr (Ds.length : Int) := by constructor <;> omega
    refine ⟨0, (Ds.length : Int), ((Ds ++ [stT]), pg, pp, r, L, Q, C), by decide, fun _ => vi, ?_, fun S1 h1 => ?_⟩
    · unfold f_L_standard
      dsimp only
      refine ev_gg (by first | omega | (constructor <;> omega)) ?_
      refine ev_gc (ev_hi (fun n => (kh_X11_standard n) _ _) (c_standard (d := D - 1) (h := hC) (hd := by omega) (hT := std_doc))) (fun x1 S1 q => ?_)
      obtain ⟨q, hx⟩ := q
      rw [if_pos c1] at q
      obtain ⟨hv, hq⟩ := q
      rw [doc_k std_doc] at hq
      have lx : x1 < exB := by
        rw [hv]
        have := vi.2; omega
      refine ev_ite (fun _ => ?_) (fun z => absurd lx z)
      refine ev_gg ((by rw [hv]; exact vi)) ?_
      exact ev_ret ⟨rfl, fun _ => by rw [gI_a]; exact hv, cls_600 (l := ((Ds ++ [stT]), pg, pp, r, L, Q, C)) hq, hx_600 hx⟩
    · have h1' : RfS S1 stT Ds pg pp r L Q C S1 := h1
      refine ev_mono (ev_hi (fun n => (kr_X12_standard n).1 _ _) (r_standard (d := D) (h := h1') (hd := by omega) )) (fun b2 S2 q => ?_)
      obtain ⟨q, hx⟩ := q
      rw [if_pos c1] at q
      obtain ⟨hb2, ht, hq⟩ := q
      exact ⟨ht, fun _ => hb2, hq, by rw [(hx 600 (by decide)).1]⟩
  · skip
    refine ⟨1, 0, (Ds, pg, pp, r, L, Q, C), by decide, fun z => absurd z (by decide), ?_, fun S1 h1 => ?_⟩
    · unfold f_L_standard
      dsimp only
      refine ev_gg (by first | omega | (constructor <;> omega)) ?_
      refine ev_gc (ev_hi (fun n => (kh_X11_standard n) _ _) (c_standard (d := D - 1) (h := hC) (hd := by omega) (hT := std_doc))) (fun x1 S1 q => ?_)
      obtain ⟨q, hx⟩ := q
      rw [if_neg c1] at q
      obtain ⟨hv, hq0⟩ := q
      have hq : ClS stT Ds pg pp r L Q C S1 := by first | exact hq0 | (rw [hq0]; exact hC)
      refine ev_ite (fun z => by omega) (fun _ => ?_)
      refine ev_ite (fun _ => ?_) (fun z => absurd hv z)
      exact ev_ret ⟨rfl, fun z => absurd z (by decide), hq, hx_of hx⟩
    · have h1' : RfS S1 stT Ds pg pp r L Q C S1 := h1
      refine ev_mono (ev_hi (fun n => (kr_X12_standard n).1 _ _) (r_standard (d := D) (h := h1') (hd := by omega) )) (fun b2 S2 q => ?_)
      obtain ⟨q, hx⟩ := q
      rw [if_neg c1] at q
      obtain ⟨ht, hq⟩ := q
      exact ⟨ht, fun z => absurd z (by decide), hq, by rw [(hx 600 (by decide)).1]⟩
end PRS
