/-! p37: what is written can be typed, and is read back -/
abbrev okA (l : List Int) : Prop := ∀ y ∈ l, okS y
theorem ok_app {A B : List Int} (a : okA A) (b : okA B) : okA (A ++ B) := fun y hy => (List.mem_append.mp hy).elim (a y) (b y)
theorem ok_one {x : Int} (h : okS x) : okA [x] := fun y hy => by
  rw [List.mem_singleton] at hy
  rw [hy]
  exact h
theorem ok_nil : okA [] := fun y hy => by cases hy
set_option maxRecDepth 100000 in
theorem sx_okA : okA (sx 12) ∧ okA (sx 13) ∧ okA (sx 14) ∧ okA (sx 16) ∧ okA (sx 17) := by decide +kernel
theorem wnum_ok (v : Int) : okA (wnum v) := by
  intro x hx
  unfold wnum at hx
  rcases List.mem_append.mp hx with q | q
  · rcases List.mem_append.mp q with q | q
    · rcases List.mem_append.mp q with q | q
      · split at q
        · simp only [List.mem_cons, List.not_mem_nil, or_false] at q; omega
        · cases q
      · split at q
        · simp only [List.mem_cons, List.not_mem_nil, or_false] at q; omega
        · cases q
    · split at q
      · simp only [List.mem_cons, List.not_mem_nil, or_false] at q; omega
      · cases q
  · simp only [List.mem_cons, List.not_mem_nil, or_false] at q; omega
theorem wsign_ok (x : Int) : okA (wsign x) := by
  intro y hy
  unfold wsign at hy
  split at hy
  · split at hy
    · simp only [List.mem_cons, List.not_mem_nil, or_false] at hy
      rcases hy with z | z <;> omega
    · simp only [List.mem_cons, List.not_mem_nil, or_false] at hy
      omega
  · simp only [List.mem_cons, List.not_mem_nil, or_false] at hy
    have hh : ∀ n : Int, 0 ≤ n → n < 16 → 48 ≤ hexS n ∧ hexS n < 103 := fun n h1 h2 => by
      unfold hexS
      split <;> omega
    have h1 := hh (x / 16 % 16) (by omega) (by omega)
    have h2 := hh (x % 16) (by omega) (by omega)
    rcases hy with z | z | z | z | z | z <;> omega
theorem wq_ok (l : List Int) : okA (wq l) := by
  unfold wq wtx
  refine ok_app (ok_app (ok_one (by omega)) (fun y hy => ?_)) (ok_one (by omega))
  obtain ⟨x, _, h⟩ := List.mem_flatMap.mp hy
  exact wsign_ok x y h
theorem wln_ok (k : Nat) : okA (wln k) := by
  unfold wln
  refine ok_app (ok_one (by omega)) (fun y hy => ?_)
  have := List.eq_of_mem_replicate hy
  omega
theorem wsc_ok {T : List ND} (h : SDC T) : okA (wsc T) := by
  unfold wsc
  split
  · exact sx_okA.1
  · split
    · split
      · exact sx_okA.2.1
      · exact sx_okA.2.2.1
    · split
      · rename_i k2
        have vn := (root_nr h).2
        have k2' : (T.getD 0 nd0).1 = 2 := k2
        have nb : NbOK (rt T) (rp T) := by
          rcases vn with v | v | v | v | v
          · omega
          · omega
          · exact v.2
          · omega
          · omega
        have ht : okA (rt T) := by
          rcases nb with z | ⟨g, F, e, hF, _⟩
          · rw [z.1]
            exact ok_one (by omega)
          · rw [e]
            refine ok_app ?_ (fun y hy => by have := hF y hy; omega)
            split
            · exact ok_nil
            · exact ok_one (by omega)
        unfold wnb
        refine ok_app ht ?_
        split
        · exact ok_nil
        · exact ok_app (ok_one (by omega)) (wnum_ok _)
      · exact wq_ok _
theorem wbd_ok {lines map : Bool} {ind : Nat} {g : List ND → List Int} : ∀ (b : Bool) (K : List (List ND)), (∀ t ∈ K, okA (g t)) → okA (wbd lines map ind g b K)
  | _, [], _ => ok_nil
  | b, t :: K, h => by
    have e : wbd lines map ind g b (t :: K) = wpr b lines map ind (rq t) ++ g t ++ wbd lines map ind g false K := rfl
    rw [e]
    refine ok_app (ok_app ?_ (h t List.mem_cons_self)) (wbd_ok false K (fun u hu => h u (List.mem_cons_of_mem _ hu)))
    unfold wpr
    refine ok_app (ok_app ?_ ?_) ?_
    · split
      · exact ok_nil
      · exact ok_one (by omega)
    · split
      · exact wln_ok _
      · exact ok_nil
    · split
      · refine ok_app (wq_ok _) ?_
        split
        · exact sx_okA.2.2.2.1
        · exact sx_okA.2.2.2.2
      · exact ok_nil
theorem wrA_ok {w : Int} : ∀ (f ind : Nat) (T : List ND), SDC T → okA (wrF f w ind T)
  | 0, ind, T, h => wsc_ok h
  | f + 1, ind, T, h => by
    have e : wrF (f + 1) w ind T = if rk T < 4 then wsc T else [if rk T = 5 then 123 else 91] ++ wbd (wli w T) (decide (rk T = 5)) ind (wrF f w (ind + 1)) true (koS w T) ++ wend (wli w T) (decide (rk T = 5)) ind := rfl
    rw [e]
    split
    · exact wsc_ok h
    · refine ok_app (ok_app (fun y hy => ?_) (wbd_ok true (koS w T) (fun t ht => wrA_ok f (ind + 1) t (sdc_kd h (koS_mem t ht))))) ?_
      · rw [List.mem_singleton] at hy
        rw [hy]
        split <;> omega
      · unfold wend
        refine ok_app ?_ (fun y hy => ?_)
        · split
          · exact wln_ok _
          · exact ok_nil
        · rw [List.mem_singleton] at hy
          rw [hy]
          split <;> omega
theorem ok_rng {l : List Int} (h : okA l) : rng l := fun y hy => by
  have := h y hy
  omega
/-- what is read back: EQUAL -/
theorem wo_doc {w : Int} {V : List ND} (h : DOC V) : DOC (woF w 12 V) := by
  have wo := wo_sdc (w := w) 12 V h.1 h.2.2.1
  exact ⟨wo.1, wo_dp 12 V 12 h.1 h.2.2.1 h.2.1, by rw [wo.2]; exact h.2.2.1, ((wo_rq 12 V).1).trans h.2.2.2⟩
theorem wo_ek {w : Int} {V : List ND} (h : DOC V) : EK (woF w 12 V) V :=
  (ek_sm (doc_sb (wo_doc h)) (doc_sb h) ((wo_rq 12 V).1)).mp (sm_w 12 V h.1 h.2.2.1 h.2.1)
theorem doc_kyQ {V : List ND} (h : DOC V) : kyT V [] = V := by
  have := ky_self h.1.1.1.2.1
  rw [h.2.2.2] at this
  exact this
/-- EQUAL, as it is asked -/
theorem eq_doc {V U : List ND} (hV : DOC V) (hU : DOC U) : smJ 13 V 0 U 0 = true ↔ EK V U := by
  have l1 := hU.1.1.1.2.1
  have e : smJ 13 V 0 U 0 = smF 13 V U := by
    unfold smJ
    rw [if_pos (by omega), sg_self hV.1.1.1]
    show smF 13 V (sg U 0) = _
    rw [sg_self hU.1.1.1]
  rw [e]
  exact ek_sm (doc_sb hV) (doc_sb hU) (hV.2.2.2.trans hU.2.2.2.symm)
theorem wr_ek {V U : List ND} (hV : DOC V) (hU : DOC U) (e : EK V U) : wrF 12 1 0 V = wrF 12 1 0 U :=
  (eq_wr hV.1 hU.1 hV.2.2.1 hU.2.2.1 hV.2.1 hU.2.1).mp ((ek_sm (doc_sb hV) (doc_sb hU) (hV.2.2.2.trans hU.2.2.2.symm)).mpr e)
theorem nz_0 {V : List ND} (h : DOC V) : nz V 0 = V.length := by
  have a : (sg V 0).length = V.length := by rw [sg_self h.1.1.1]
  have b := sg_len (V := V) (i := 0) h.1.1.1.1 (by have := h.1.1.1.2.1; omega)
  rw [← b]
  exact a
theorem dp_top {V : List ND} (h : DOC V) : ∀ g, dpS g V ≤ dpS 13 V := fun g => dp_all 13 V (dpS 13 V) (Int.le_refl _) (by have := h.2.1 13; omega) g
theorem dpF_0 {V : List ND} (h : DOC V) : dpF 13 V 0 = dpS 13 V := by
  have e := dpF_S h.1.1.2 h.1.1.1.1 13 0 h.1.1.1.2.1
  rw [sg_self h.1.1.1] at e
  exact e
theorem dp_ek {V U : List ND} (hV : DOC V) (hU : DOC U) (e : EK V U) : dpF 13 V 0 = dpF 13 U 0 := by
  rw [dpF_0 hV, dpF_0 hU]
  have a := ek_dp (doc_sb hV) (doc_sb hU) e (dp_top hV) 13
  have b := ek_dp (doc_sb hU) (doc_sb hV) e.symm (dp_top hU) 13
  omega
