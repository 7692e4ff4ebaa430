/-! THE REFERENCE reads: letters, TEXTS as they are kept -/
section RD1
variable {S : GS} {d : Nat} {t r : List Int}
/-- what letters come to -/
def RlQ (t : List Int) (o : Rs (List Int)) (S : GS) (x : Int) (S1 : GS) : Prop := (match o with
  | .inl q => x = 0 ∧ RdS S1 t q
  | .inr q => x = 1 ∧ RdS S1 t q) ∧ FC raP S S1
theorem q_readsLetters {a : Int} (hd : 2 ≤ d) (ha : inl a) (h : RdS S t r) : Ev (fun n => f_X12_readsLetters n d 0 S [a]) (fun x S1 => RlQ t (rdW (lw a) r) S x S1) := by
  refine ev_up (fun n => e_X12_readsLetters_0) ?_
  unfold b_X12_readsLetters_0
  refine ev_gg (by first | omega | (constructor <;> omega)) ?_
  refine ev_gc (q_says (d := d - 1) ha) (fun _ S1 q => ?_)
  obtain ⟨w1, f1⟩ := q
  have lp : ∀ (w : List Int) (u : Nat) (r : List Int) (S2 : GS), (lw a).drop u = w → u ≤ (lw a).length → RdS S2 t r → WD S2 (lw a) → FC raP S S2 → Ev (fun n => f_X12_readsLetters n d 7 S2 [(u : Int)]) (fun x S1 => RlQ t (rdW w r) S x S1) := by
    intro w
    induction w with
    | nil =>
      intro u r S2 hu hul h2 w2 f2
      have := drop_nl hu
      have l9 := w2.2.1
      refine ev_up (fun n => e_X12_readsLetters_7) ?_
      unfold b_X12_readsLetters_7
      refine ev_gv ?_
      rw [w2.1]
      refine ev_gg (by first | omega | (constructor <;> omega)) ?_
      refine ev_gg (by first | omega | (constructor <;> omega)) ?_
      refine ev_ite (fun _ => ?_) (fun z => by omega)
      exact ev_ret ⟨⟨rfl, h2⟩, f2⟩
    | cons c w ih =>
      intro u r S2 hu hul h2 w2 f2
      obtain ⟨lu, g1, r1⟩ := drop_hd hu
      have l9 := w2.2.1
      have cr := w2.2.2.2 c (by rw [← g1]; exact getD_in lu)
      have hr := rd_hd h2
      show Ev _ (fun x S1 => RlQ t (if hdI r = c then rdW w r.tail else .inl r) S x S1)
      refine ev_up (fun n => e_X12_readsLetters_7) ?_
      unfold b_X12_readsLetters_7
      refine ev_gv ?_
      rw [w2.1]
      refine ev_gg (by first | omega | (constructor <;> omega)) ?_
      refine ev_gg (by first | omega | (constructor <;> omega)) ?_
      refine ev_ite (fun z => by omega) (fun _ => ?_)
      refine ev_gg (by first | omega | (constructor <;> omega)) ?_
      refine ev_gcr (q_sign (d := d - 1) h2) ?_
      refine ev_gg (by first | omega | (constructor <;> omega)) ?_
      refine ev_gv ?_
      rw [Int.toNat_natCast, w2.2.2.1 u lu, g1]
      refine ev_gg (by first | omega | (constructor <;> omega)) ?_
      refine ev_gg (by first | omega | (constructor <;> omega)) ?_
      refine ev_ite (fun z => ?_) (fun z => ?_)
      · rw [if_pos z]
        refine ev_gv ?_
        refine ev_gv ?_
        refine ev_gv ?_
        refine ev_gv ?_
        rw [show (u : Int) + 1 = ((u + 1 : Nat) : Int) by omega]
        exact ih (u + 1) r.tail _ r1 (by omega) (rd_on h2 (rd_ne (by omega))) (wd_fr w2 (fc_gI (P := fun c j => c = 500 ∧ j = 16) ⟨rfl, rfl⟩) (by omega) (fun j => by omega)) (fc_tr f2 (fc_gI (Or.inl ⟨rfl, Or.inr rfl⟩)))
      · rw [if_neg z]
        exact ev_ret ⟨⟨rfl, h2⟩, f2⟩
  exact lp (lw a) 0 r S1 rfl (Nat.zero_le _) (rd_fr h f1 (by omega) (by omega) (fun j => by omega)) w1 (fc_mono f1 (fun c j z => by omega))
/-- a WORD is kept as the SIGNS of a NODE -/
theorem q_textIs {k i : Int} {K I : Nat} {w : List Int} (hd : 1 ≤ d) (hk : k = (K : Int)) (hK : K < 48) (hi : i = (I : Int)) (hI : I ≤ 100) (hw : WD S w) (hl : w.length ≤ 40) : Ev (fun n => f_X12_textIs n d 0 S [k, i]) (fun _ S1 => S1.1 501 (6161 * K + 61 * I + 18) = (w.length : Int) ∧ (∀ j, j < w.length → S1.1 501 (6161 * K + 61 * I + 21 + j) = w.getD j 0) ∧ FC (fun c j => c = 501 ∧ (j = 6161 * K + 61 * I + 18 ∨ (6161 * K + 61 * I + 21 ≤ j ∧ j < 6161 * K + 61 * I + 61))) S S1) := by
  subst hk hi
  have lp : ∀ (t u : Nat) (S1 : GS), u + t = w.length → S1.1 501 (6161 * K + 61 * I + 18) = (w.length : Int) → (∀ j, j < u → S1.1 501 (6161 * K + 61 * I + 21 + j) = w.getD j 0) → FC (fun c j => c = 501 ∧ (j = 6161 * K + 61 * I + 18 ∨ (6161 * K + 61 * I + 21 ≤ j ∧ j < 6161 * K + 61 * I + 61))) S S1 → Ev (fun n => f_X12_textIs n d 19 S1 [(K : Int), (I : Int), (u : Int)]) (fun _ S1 => S1.1 501 (6161 * K + 61 * I + 18) = (w.length : Int) ∧ (∀ j, j < w.length → S1.1 501 (6161 * K + 61 * I + 21 + j) = w.getD j 0) ∧ FC (fun c j => c = 501 ∧ (j = 6161 * K + 61 * I + 18 ∨ (6161 * K + 61 * I + 21 ≤ j ∧ j < 6161 * K + 61 * I + 61))) S S1) := by
    intro t
    induction t with
    | zero =>
      intro u S1 hu h18 hj hf
      have w1 := wd_fr hw hf (by omega) (fun j => by omega)
      refine ev_up (fun n => e_X12_textIs_19) ?_
      unfold b_X12_textIs_19
      refine ev_gv ?_
      rw [w1.1]
      refine ev_gg (by first | omega | (constructor <;> omega)) ?_
      refine ev_gg (by first | omega | (constructor <;> omega)) ?_
      refine ev_ite (fun _ => ?_) (fun z => by omega)
      exact ev_ret ⟨h18, fun j hj2 => hj j (by omega), hf⟩
    | succ t ih =>
      intro u S1 hu h18 hj hf
      have w1 := wd_fr hw hf (by omega) (fun j => by omega)
      refine ev_up (fun n => e_X12_textIs_19) ?_
      unfold b_X12_textIs_19
      refine ev_gv ?_
      rw [w1.1]
      refine ev_gg (by first | omega | (constructor <;> omega)) ?_
      refine ev_gg (by first | omega | (constructor <;> omega)) ?_
      refine ev_ite (fun z => by omega) (fun _ => ?_)
      refine ev_ite (fun z => by omega) (fun _ => ?_)
      refine ev_gg (by first | omega | (constructor <;> omega)) ?_
      refine ev_gcr (q_at) ?_
      refine ev_gv ?_
      refine ev_gv ?_
      refine ev_gg (by first | omega | (constructor <;> omega)) ?_
      refine ev_gv ?_
      rw [Int.toNat_natCast, w1.2.2.1 u (by omega)]
      refine ev_gg (by first | omega | (constructor <;> omega)) ?_
      refine ev_gv ?_
      refine ev_gv ?_
      rw [show ((101 * (K : Int) + (I : Int)) * 61 + 21 + (u : Int)).toNat = 6161 * K + 61 * I + 21 + u by omega, show (u : Int) + 1 = ((u + 1 : Nat) : Int) by omega]
      refine ih (u + 1) _ (by omega) (by rw [gI_k (by omega)]; exact h18) (fun j hj2 => ?_) (fc_tr hf (fc_gI ⟨rfl, Or.inr ⟨by omega, by omega⟩⟩))
      by_cases e : j = u
      · subst e; rw [gI_a]
      · rw [gI_k (by omega)]; exact hj j (by omega)
  refine ev_up (fun n => e_X12_textIs_0) ?_
  unfold b_X12_textIs_0
  refine ev_gg (by first | omega | (constructor <;> omega)) ?_
  refine ev_gcr (q_at) ?_
  refine ev_gv ?_
  refine ev_gv ?_
  rw [hw.1]
  refine ev_gg (by first | omega | (constructor <;> omega)) ?_
  refine ev_gv ?_
  rw [show ((101 * (K : Int) + (I : Int)) * 61 + 18).toNat = 6161 * K + 61 * I + 18 by omega]
  exact lp w.length 0 _ (by omega) gI_a (fun j hj => absurd hj (Nat.not_lt_zero j)) (fc_gI ⟨rfl, Or.inl rfl⟩)
end RD1
