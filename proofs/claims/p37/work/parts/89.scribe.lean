/-! WRITING: texts, KEYS, NUMBERS, lines -/
def wtx (l : List Int) : List Int := l.flatMap wsign
def wq (l : List Int) : List Int := [34] ++ wtx l ++ [34]
def wln (k : Nat) : List Int := [10] ++ List.replicate (2 * k) 32
def wnb (t : List Int) (p : Int) : List Int := t ++ (if p = 0 then [] else [101] ++ wnum p)
theorem wtx_cons {x : Int} {l : List Int} : wtx (x :: l) = wsign x ++ wtx l := by simp [wtx]
section SCR
variable {S S0 : GS} {c s d : Nat} {V : List ND} {l : List Int}
theorem tv_sx {c : Nat} (hc : gT c) (hs : gSh s) (hv : TV S0 c V) (h : SX s S0 l S) : TV S c V := tv_fr hv h.2.1 (fun k h1 h2 => by unfold shM; omega)
theorem signsTo_2 {i : Int} (hc : gT c) (hs : gSh s) (hd : 1 ≤ d) (hv0 : TV S0 c V) (hi : inr i) : ∀ (m t : Nat) (S : GS) (l : List Int), (tI V i).length - t < m → t ≤ (tI V i).length → SX s S0 l S → l.length + ((tI V i).length - t) ≤ g_room (s + 1) → Ev (fun n => f_X10_signsTo n d 2 S [((c : Nat) : Int), i, ((s : Nat) : Int), (t : Int)]) (fun _ S1 => SX s S0 (l ++ (tI V i).drop t) S1) := by
  have hl := (tI_r hv0 i).1
  intro m
  induction m with
  | zero => intros; omega
  | succ m ih =>
    intro t S l hm ht h hr
    have hv := tv_sx hc hs hv0 h
    by_cases e : t < (tI V i).length
    · have a1 := tI_at hv0 e
      have a3 := atD_nat e
      rw [drop_one e]
      refine ev_up (fun n => e_X10_signsTo_2) ?_
      unfold b_X10_signsTo_2
      repeat' (first
        | with_reducible refine ev_gv ?_
        | with_reducible refine ev_gg ?_ ?_
        | with_reducible refine ev_ite (fun _ => ?_) (fun _ => ?_)
        | refine ev_gcr (t_textLength hc hv hi) ?_
        | refine ev_gcr (t_signAt hc hv hi (by constructor <;> omega)) ?_
        | omega
        | assumption)
      rw [a3]
      refine ev_gc (sx_add hs h (by omega) (by omega)) (fun _ S1 h1 => ?_)
      refine ev_gv ?_
      have k := ih (t + 1) S1 _ (by omega) (by omega) h1 (by simp; omega)
      simpa using k
    · rw [List.drop_eq_nil_of_le (by omega), List.append_nil]
      refine ev_up (fun n => e_X10_signsTo_2) ?_
      unfold b_X10_signsTo_2
      repeat' (first
        | with_reducible refine ev_gv ?_
        | with_reducible refine ev_gg ?_ ?_
        | with_reducible refine ev_ite (fun _ => ?_) (fun _ => ?_)
        | refine ev_gcr (t_textLength hc hv hi) ?_
        | omega
        | assumption)
      exact ev_ret h
theorem t_signsTo {i : Int} (hc : gT c) (hs : gSh s) (hd : 1 ≤ d) (hv0 : TV S0 c V) (hi : inr i) (h : SX s S0 l S) (hr : l.length + (tI V i).length ≤ g_room (s + 1)) : Ev (fun n => f_X10_signsTo n d 0 S [((c : Nat) : Int), i, ((s : Nat) : Int)]) (fun _ S1 => SX s S0 (l ++ tI V i) S1) := by
  refine ev_up (fun n => e_X10_signsTo_0) ?_
  unfold b_X10_signsTo_0
  exact signsTo_2 hc hs hd hv0 hi _ 0 S l (Nat.lt_succ_self _) (Nat.zero_le _) h (by omega)
theorem keyTo_2 {i : Int} (hc : gT c) (hs : gSh s) (hd : 1 ≤ d) (hv0 : TV S0 c V) (hi : inr i) : ∀ (m t : Nat) (S : GS) (l : List Int), (kI V i).length - t < m → t ≤ (kI V i).length → SX s S0 l S → l.length + ((kI V i).length - t) ≤ g_room (s + 1) → Ev (fun n => f_X10_keyTo n d 2 S [((c : Nat) : Int), i, ((s : Nat) : Int), (t : Int)]) (fun _ S1 => SX s S0 (l ++ (kI V i).drop t) S1) := by
  have hl := (kI_r hv0 i).1
  intro m
  induction m with
  | zero => intros; omega
  | succ m ih =>
    intro t S l hm ht h hr
    have hv := tv_sx hc hs hv0 h
    by_cases e : t < (kI V i).length
    · have a1 := kI_at hv0 e
      have a3 := atD_nat e
      rw [drop_one e]
      refine ev_up (fun n => e_X10_keyTo_2) ?_
      unfold b_X10_keyTo_2
      repeat' (first
        | with_reducible refine ev_gv ?_
        | with_reducible refine ev_gg ?_ ?_
        | with_reducible refine ev_ite (fun _ => ?_) (fun _ => ?_)
        | refine ev_gcr (t_keyLen hc hv hi) ?_
        | refine ev_gcr (t_keySign hc hv hi (by constructor <;> omega)) ?_
        | omega
        | assumption)
      rw [a3]
      refine ev_gc (sx_add hs h (by omega) (by omega)) (fun _ S1 h1 => ?_)
      refine ev_gv ?_
      have k := ih (t + 1) S1 _ (by omega) (by omega) h1 (by simp; omega)
      simpa using k
    · rw [List.drop_eq_nil_of_le (by omega), List.append_nil]
      refine ev_up (fun n => e_X10_keyTo_2) ?_
      unfold b_X10_keyTo_2
      repeat' (first
        | with_reducible refine ev_gv ?_
        | with_reducible refine ev_gg ?_ ?_
        | with_reducible refine ev_ite (fun _ => ?_) (fun _ => ?_)
        | refine ev_gcr (t_keyLen hc hv hi) ?_
        | omega
        | assumption)
      exact ev_ret h
theorem t_keyTo {i : Int} (hc : gT c) (hs : gSh s) (hd : 1 ≤ d) (hv0 : TV S0 c V) (hi : inr i) (h : SX s S0 l S) (hr : l.length + (kI V i).length ≤ g_room (s + 1)) : Ev (fun n => f_X10_keyTo n d 0 S [((c : Nat) : Int), i, ((s : Nat) : Int)]) (fun _ S1 => SX s S0 (l ++ kI V i) S1) := by
  refine ev_up (fun n => e_X10_keyTo_0) ?_
  unfold b_X10_keyTo_0
  exact keyTo_2 hc hs hd hv0 hi _ 0 S l (Nat.lt_succ_self _) (Nat.zero_le _) h (by omega)
theorem text_8 {i : Int} (hc : gT c) (hs : gSh s) (hd : 3 ≤ d) (hv0 : TV S0 c V) (hi : inr i) : ∀ (m t : Nat) (S : GS) (l : List Int), (tI V i).length - t < m → t ≤ (tI V i).length → SX s S0 l S → l.length + (wtx ((tI V i).drop t)).length + 1 ≤ g_room (s + 1) → Ev (fun n => f_X8_text n d 8 S [((c : Nat) : Int), i, ((s : Nat) : Int), (t : Int)]) (fun _ S1 => SX s S0 (l ++ wtx ((tI V i).drop t) ++ [34]) S1) := by
  have hl := (tI_r hv0 i).1
  intro m
  induction m with
  | zero => intros; omega
  | succ m ih =>
    intro t S l hm ht h hr
    have hv := tv_sx hc hs hv0 h
    by_cases e : t < (tI V i).length
    · have a1 := tI_at hv0 e
      have a3 := atD_nat e
      rw [drop_one e, wtx_cons] at hr ⊢
      rw [List.length_append] at hr
      refine ev_up (fun n => e_X8_text_8) ?_
      unfold b_X8_text_8
      repeat' (first
        | with_reducible refine ev_gv ?_
        | with_reducible refine ev_gg ?_ ?_
        | with_reducible refine ev_ite (fun _ => ?_) (fun _ => ?_)
        | refine ev_gcr (t_textLength hc hv hi) ?_
        | refine ev_gcr (t_signAt hc hv hi (by constructor <;> omega)) ?_
        | omega
        | assumption)
      rw [a3]
      refine ev_gc (s9_addWritten hs (by omega) h a1 (by omega)) (fun _ S1 h1 => ?_)
      refine ev_gv ?_
      have k := ih (t + 1) S1 _ (by omega) (by omega) h1 (by rw [List.length_append]; omega)
      simp only [List.append_assoc] at k ⊢
      exact k
    · have e0 : (tI V i).drop t = [] := List.drop_eq_nil_of_le (by omega)
      rw [e0] at hr ⊢
      have e1 : wtx [] = [] := rfl
      rw [e1] at hr ⊢
      rw [List.append_nil]
      refine ev_up (fun n => e_X8_text_8) ?_
      unfold b_X8_text_8
      repeat' (first
        | with_reducible refine ev_gv ?_
        | with_reducible refine ev_gg ?_ ?_
        | with_reducible refine ev_ite (fun _ => ?_) (fun _ => ?_)
        | refine ev_gcr (t_textLength hc hv hi) ?_
        | omega
        | assumption)
      refine ev_gc (sx_add hs h (by decide) (by simp at hr; omega)) (fun _ S1 h1 => ?_)
      exact ev_ret h1
theorem s8_text {i : Int} (hc : gT c) (hs : gSh s) (hd : 3 ≤ d) (hv0 : TV S0 c V) (hi : inr i) (h : SX s S0 l S) (hr : l.length + (wq (tI V i)).length ≤ g_room (s + 1)) : Ev (fun n => f_X8_text n d 0 S [((c : Nat) : Int), i, ((s : Nat) : Int)]) (fun _ S1 => SX s S0 (l ++ wq (tI V i)) S1) := by
  unfold wq at hr ⊢
  simp only [List.length_append, List.length_cons, List.length_nil] at hr
  refine ev_up (fun n => e_X8_text_0) ?_
  unfold b_X8_text_0
  refine ev_gg (by omega) ?_
  refine ev_gg hs ?_
  refine ev_gc (sx_add hs h (by decide) (by omega)) (fun _ S1 h1 => ?_)
  have k := text_8 (d := d) hc hs hd hv0 hi _ 0 S1 _ (Nat.lt_succ_self _) (Nat.zero_le _) h1 (by rw [List.drop_zero, List.length_append, List.length_cons, List.length_nil]; omega)
  simp only [List.append_assoc, List.drop_zero] at k ⊢
  exact k
theorem key_8 {i : Int} (hc : gT c) (hs : gSh s) (hd : 3 ≤ d) (hv0 : TV S0 c V) (hi : inr i) : ∀ (m t : Nat) (S : GS) (l : List Int), (kI V i).length - t < m → t ≤ (kI V i).length → SX s S0 l S → l.length + (wtx ((kI V i).drop t)).length + 1 ≤ g_room (s + 1) → Ev (fun n => f_X8_key n d 8 S [((c : Nat) : Int), i, ((s : Nat) : Int), (t : Int)]) (fun _ S1 => SX s S0 (l ++ wtx ((kI V i).drop t) ++ [34]) S1) := by
  have hl := (kI_r hv0 i).1
  intro m
  induction m with
  | zero => intros; omega
  | succ m ih =>
    intro t S l hm ht h hr
    have hv := tv_sx hc hs hv0 h
    by_cases e : t < (kI V i).length
    · have a1 := kI_at hv0 e
      have a3 := atD_nat e
      rw [drop_one e, wtx_cons] at hr ⊢
      rw [List.length_append] at hr
      refine ev_up (fun n => e_X8_key_8) ?_
      unfold b_X8_key_8
      repeat' (first
        | with_reducible refine ev_gv ?_
        | with_reducible refine ev_gg ?_ ?_
        | with_reducible refine ev_ite (fun _ => ?_) (fun _ => ?_)
        | refine ev_gcr (t_keyLen hc hv hi) ?_
        | refine ev_gcr (t_keySign hc hv hi (by constructor <;> omega)) ?_
        | omega
        | assumption)
      rw [a3]
      refine ev_gc (s9_addWritten hs (by omega) h a1 (by omega)) (fun _ S1 h1 => ?_)
      refine ev_gv ?_
      have k := ih (t + 1) S1 _ (by omega) (by omega) h1 (by rw [List.length_append]; omega)
      simp only [List.append_assoc] at k ⊢
      exact k
    · have e0 : (kI V i).drop t = [] := List.drop_eq_nil_of_le (by omega)
      rw [e0] at hr ⊢
      have e1 : wtx [] = [] := rfl
      rw [e1] at hr ⊢
      rw [List.append_nil]
      refine ev_up (fun n => e_X8_key_8) ?_
      unfold b_X8_key_8
      repeat' (first
        | with_reducible refine ev_gv ?_
        | with_reducible refine ev_gg ?_ ?_
        | with_reducible refine ev_ite (fun _ => ?_) (fun _ => ?_)
        | refine ev_gcr (t_keyLen hc hv hi) ?_
        | omega
        | assumption)
      refine ev_gc (sx_add hs h (by decide) (by simp at hr; omega)) (fun _ S1 h1 => ?_)
      exact ev_ret h1
theorem s8_key {i : Int} (hc : gT c) (hs : gSh s) (hd : 3 ≤ d) (hv0 : TV S0 c V) (hi : inr i) (h : SX s S0 l S) (hr : l.length + (wq (kI V i)).length ≤ g_room (s + 1)) : Ev (fun n => f_X8_key n d 0 S [((c : Nat) : Int), i, ((s : Nat) : Int)]) (fun _ S1 => SX s S0 (l ++ wq (kI V i)) S1) := by
  unfold wq at hr ⊢
  simp only [List.length_append, List.length_cons, List.length_nil] at hr
  refine ev_up (fun n => e_X8_key_0) ?_
  unfold b_X8_key_0
  refine ev_gg (by omega) ?_
  refine ev_gg hs ?_
  refine ev_gc (sx_add hs h (by decide) (by omega)) (fun _ S1 h1 => ?_)
  have k := key_8 (d := d) hc hs hd hv0 hi _ 0 S1 _ (Nat.lt_succ_self _) (Nat.zero_le _) h1 (by rw [List.drop_zero, List.length_append, List.length_cons, List.length_nil]; omega)
  simp only [List.append_assoc, List.drop_zero] at k ⊢
  exact k
/-- a String constant comes behind -/
theorem sx_addAll {t : Nat} (hs : gSh s) (ht : t < 54) (hd : 5 ≤ d) (h : SX s S0 l S) (hr : l.length + (sx t).length ≤ g_room (s + 1)) : Ev (fun n => f_X9_addAll n d 0 S [((s : Nat) : Int), ((t : Nat) : Int)]) (fun _ S1 => SX s S0 (l ++ sx t) S1) :=
  ev_mono (s9_addAll hs ht hd h.2.2 h.1 hr) (fun _ _ q => ⟨q.1, fr_tr h.2.1 q.2.1, q.2.2⟩)
theorem sx_15 : sx 15 = [32, 32] := by decide +kernel
theorem sx_12 : sx 12 = [110, 117, 108, 108] := by decide +kernel
theorem sx_13 : sx 13 = [116, 114, 117, 101] := by decide +kernel
theorem sx_14 : sx 14 = [102, 97, 108, 115, 101] := by decide +kernel
theorem sx_16 : sx 16 = [58, 32] := by decide +kernel
theorem sx_17 : sx 17 = [58] := by decide +kernel
theorem line_8 {k : Nat} (hs : gSh s) (hd : 6 ≤ d) (hk : k ≤ 100) : ∀ (m t : Nat) (S : GS) (l : List Int), k - t < m → t ≤ k → SX s S0 l S → l.length + 2 * (k - t) ≤ g_room (s + 1) → Ev (fun n => f_X8_line n d 8 S [(k : Int), ((s : Nat) : Int), (t : Int)]) (fun _ S1 => SX s S0 (l ++ List.replicate (2 * (k - t)) 32) S1) := by
  intro m
  induction m with
  | zero => intros; omega
  | succ m ih =>
    intro t S l hm ht h hr
    by_cases e : t < k
    · refine ev_up (fun n => e_X8_line_8) ?_
      unfold b_X8_line_8
      repeat' (first
        | with_reducible refine ev_gv ?_
        | with_reducible refine ev_gg ?_ ?_
        | with_reducible refine ev_ite (fun _ => ?_) (fun _ => ?_)
        | omega
        | assumption)
      refine ev_gc (sx_addAll (t := 15) hs (by decide) (by omega) h (by rw [sx_15]; simp; omega)) (fun _ S1 h1 => ?_)
      refine ev_gv ?_
      rw [sx_15] at h1
      have kk := ih (t + 1) S1 _ (by omega) (by omega) h1 (by simp; omega)
      have e2 : List.replicate (2 * (k - t)) (32 : Int) = [32, 32] ++ List.replicate (2 * (k - (t + 1))) 32 := by
        rw [show 2 * (k - t) = 2 + 2 * (k - (t + 1)) by omega, ← List.replicate_append_replicate]
        rfl
      rw [e2]
      simpa using kk
    · rw [show 2 * (k - t) = 0 by omega, List.replicate_zero, List.append_nil]
      refine ev_up (fun n => e_X8_line_8) ?_
      unfold b_X8_line_8
      repeat' (first
        | with_reducible refine ev_gv ?_
        | with_reducible refine ev_gg ?_ ?_
        | with_reducible refine ev_ite (fun _ => ?_) (fun _ => ?_)
        | omega
        | assumption)
      exact ev_ret h
theorem s8_line {k : Nat} (hs : gSh s) (hd : 6 ≤ d) (hk : k ≤ 100) (h : SX s S0 l S) (hr : l.length + (wln k).length ≤ g_room (s + 1)) : Ev (fun n => f_X8_line n d 0 S [(k : Int), ((s : Nat) : Int)]) (fun _ S1 => SX s S0 (l ++ wln k) S1) := by
  unfold wln at hr ⊢
  simp only [List.length_append, List.length_cons, List.length_nil, List.length_replicate] at hr
  refine ev_up (fun n => e_X8_line_0) ?_
  unfold b_X8_line_0
  refine ev_gg (by omega) ?_
  refine ev_gg hs ?_
  refine ev_gc (sx_add hs h (by decide) (by omega)) (fun _ S1 h1 => ?_)
  have kk := line_8 (d := d) (k := k) hs hd hk _ 0 S1 _ (Nat.lt_succ_self _) (Nat.zero_le _) h1 (by simp; omega)
  simpa using kk
theorem wnum_len (x : Int) : (wnum x).length ≤ 4 := by
  unfold wnum
  simp only [List.length_append, List.length_cons, List.length_nil]
  split <;> split <;> split <;> simp
theorem s8_number {i : Int} (hc : gT c) (hs : gSh s) (hd : 3 ≤ d) (hv0 : TV S0 c V) (hi : inr i) (h : SX s S0 l S) (hr : l.length + (wnb (tI V i) (pwI V i)).length + 4 ≤ g_room (s + 1)) : Ev (fun n => f_X8_number n d 0 S [((c : Nat) : Int), i, ((s : Nat) : Int)]) (fun _ S1 => SX s S0 (l ++ wnb (tI V i) (pwI V i)) S1) := by
  have hp := pwI_r hv0 i
  unfold wnb at hr ⊢
  simp only [List.length_append] at hr
  refine ev_up (fun n => e_X8_number_0) ?_
  unfold b_X8_number_0
  refine ev_gg (by omega) ?_
  refine ev_gg hc ?_
  refine ev_gc (t_signsTo hc hs (by omega) hv0 hi h (by omega)) (fun _ S1 h1 => ?_)
  have hv1 := tv_sx hc hs hv0 h1
  by_cases e : pwI V i = 0
  · rw [if_pos e, List.append_nil]
    repeat' (first
      | with_reducible refine ev_gv ?_
      | with_reducible refine ev_gg ?_ ?_
      | with_reducible refine ev_ite (fun _ => ?_) (fun _ => ?_)
      | refine ev_gcr (t_power hc hv1 (by omega) hi) ?_
      | omega
      | assumption)
    exact ev_ret h1
  · rw [if_neg e] at hr ⊢
    simp only [List.length_append, List.length_cons, List.length_nil] at hr
    repeat' (first
      | with_reducible refine ev_gv ?_
      | with_reducible refine ev_gg ?_ ?_
      | with_reducible refine ev_ite (fun _ => ?_) (fun _ => ?_)
      | refine ev_gcr (t_power hc hv1 (by omega) hi) ?_
      | omega
      | assumption)
    refine ev_gc (sx_add hs h1 (by decide) (by rw [List.length_append]; omega)) (fun _ S2 h2 => ?_)
    have hv2 := tv_sx hc hs hv0 h2
    repeat' (first
      | with_reducible refine ev_gv ?_
      | with_reducible refine ev_gg ?_ ?_
      | with_reducible refine ev_ite (fun _ => ?_) (fun _ => ?_)
      | refine ev_gcr (t_power hc hv2 (by omega) hi) ?_
      | omega
      | assumption)
    refine ev_gc (s9_addNumber hs (by omega) h2 (by omega) (by simp only [List.length_append, List.length_cons, List.length_nil]; omega)) (fun _ S3 h3 => ?_)
    refine ev_ret ?_
    simpa using h3
end SCR
