/-! what is written is made of bytes -/
theorem wnum_rng (v : Int) : rng (wnum v) := by
  intro x hx
  unfold wnum at hx
  rcases List.mem_append.mp hx with q | q
  · rcases List.mem_append.mp q with q | q
    · rcases List.mem_append.mp q with q | q
      · split at q
        · simp only [List.mem_cons, List.not_mem_nil, or_false] at q; omega
        · cases q
      · split at q
        · simp only [List.mem_cons, List.not_mem_nil, or_false] at q; omega
        · cases q
    · split at q
      · simp only [List.mem_cons, List.not_mem_nil, or_false] at q; omega
      · cases q
  · simp only [List.mem_cons, List.not_mem_nil, or_false] at q; omega
theorem wsign_rng (x : Int) : rng (wsign x) := by
  intro y hy
  unfold wsign at hy
  split at hy
  · split at hy
    · simp only [List.mem_cons, List.not_mem_nil, or_false] at hy
      rcases hy with z | z <;> omega
    · simp only [List.mem_cons, List.not_mem_nil, or_false] at hy
      omega
  · simp only [List.mem_cons, List.not_mem_nil, or_false] at hy
    have hh : ∀ n : Int, 0 ≤ n → n < 16 → 0 ≤ hexS n ∧ hexS n < 256 := fun n h1 h2 => by
      unfold hexS
      split <;> omega
    have h1 := hh (x / 16 % 16) (by omega) (by omega)
    have h2 := hh (x % 16) (by omega) (by omega)
    rcases hy with z | z | z | z | z | z <;> omega
theorem wq_rng (l : List Int) : rng (wq l) := by
  unfold wq wtx
  refine rng_app (rng_app (fun y hy => by rw [List.mem_singleton] at hy; omega) (fun y hy => ?_)) (fun y hy => by rw [List.mem_singleton] at hy; omega)
  obtain ⟨x, _, h⟩ := List.mem_flatMap.mp hy
  exact wsign_rng x y h
theorem wln_rng (k : Nat) : rng (wln k) := by
  unfold wln
  refine rng_app (fun y hy => by rw [List.mem_singleton] at hy; omega) (fun y hy => ?_)
  have := List.eq_of_mem_replicate hy
  omega
theorem wsc_rng {T : List ND} (h : SDC T) : rng (wsc T) := by
  have rt := (root_nr h).1.2.2.2.2.2.2.2.1
  unfold wsc
  split
  · exact sx_rngB (by decide)
  · split
    · split
      · exact sx_rngB (by decide)
      · exact sx_rngB (by decide)
    · split
      · unfold wnb
        refine rng_app rt ?_
        split
        · exact fun y hy => by cases hy
        · exact rng_app (fun y hy => by rw [List.mem_singleton] at hy; omega) (wnum_rng _)
      · exact wq_rng _
theorem wbd_rng {lines map : Bool} {ind : Nat} {g : List ND → List Int} : ∀ (b : Bool) (K : List (List ND)), (∀ t ∈ K, rng (g t)) → rng (wbd lines map ind g b K)
  | _, [], _ => fun y hy => by cases hy
  | b, t :: K, h => by
    have e : wbd lines map ind g b (t :: K) = wpr b lines map ind (rq t) ++ g t ++ wbd lines map ind g false K := rfl
    rw [e]
    refine rng_app (rng_app ?_ (h t List.mem_cons_self)) (wbd_rng false K (fun u hu => h u (List.mem_cons_of_mem _ hu)))
    unfold wpr
    refine rng_app (rng_app ?_ ?_) ?_
    · split
      · exact fun y hy => by cases hy
      · exact fun y hy => by rw [List.mem_singleton] at hy; omega
    · split
      · exact wln_rng _
      · exact fun y hy => by cases hy
    · split
      · refine rng_app (wq_rng _) ?_
        split
        · exact sx_rngB (by decide)
        · exact sx_rngB (by decide)
      · exact fun y hy => by cases hy
theorem wr_rng {w : Int} : ∀ (f ind : Nat) (T : List ND), SDC T → rng (wrF f w ind T)
  | 0, ind, T, h => wsc_rng h
  | f + 1, ind, T, h => by
    have e : wrF (f + 1) w ind T = if rk T < 4 then wsc T else [if rk T = 5 then 123 else 91] ++ wbd (wli w T) (decide (rk T = 5)) ind (wrF f w (ind + 1)) true (koS w T) ++ wend (wli w T) (decide (rk T = 5)) ind := rfl
    rw [e]
    split
    · exact wsc_rng h
    · refine rng_app (rng_app (fun y hy => ?_) (wbd_rng true (koS w T) (fun t ht => wr_rng f (ind + 1) t (sdc_kd h (koS_mem t ht))))) ?_
      · rw [List.mem_singleton] at hy
        rw [hy]
        split <;> decide
      · unfold wend
        refine rng_app ?_ (fun y hy => ?_)
        · split
          · exact wln_rng _
          · exact fun y hy => by cases hy
        · rw [List.mem_singleton] at hy
          rw [hy]
          split <;> decide
