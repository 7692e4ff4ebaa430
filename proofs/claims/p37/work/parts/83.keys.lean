/-! TREES in the making: KEYS and NUMBERS are set -/
def aSgs (W : TW) (i : Int) (l : List Int) : TW := l.foldl (fun W a => aSg W i a) W
def aKss (W : TW) (i : Int) (l : List Int) : TW := l.foldl (fun W a => aKs W i a) W
def stK (W : TW) (i : Int) (l : List Int) : TW := aKss (cKy W i) i l
theorem set_set {V : List ND} {i : Nat} {x y : ND} : (V.set i x).set i y = V.set i y := by simp
theorem set_get {V : List ND} {i : Nat} (h : i < V.length) : V.set i (V.getD i nd0) = V := by
  rw [List.getD_eq_getElem?_getD, List.getElem?_eq_getElem h]
  simp
theorem getD_set_s {V : List ND} {i : Nat} {x : ND} (h : i < V.length) : (V.set i x).getD i nd0 = x := by rw [getD_set h, if_pos rfl]
theorem aSgs_ok : ∀ (l : List Int) (W : TW) (i : Nat), i < W.1.length → (nt W.1 i).length + l.length ≤ 40 → aSgs W i l = (W.1.set i (wT (W.1.getD i nd0) (nt W.1 i ++ l)), W.2) := by
  intro l
  induction l with
  | nil =>
    intro W i hi _
    show W = _
    have e : wT (W.1.getD i nd0) (nt W.1 i ++ []) = W.1.getD i nd0 := by rw [List.append_nil]; rfl
    rw [e, set_get hi]
  | cons a l ih =>
    intro W i hi hl
    simp only [List.length_cons] at hl
    show aSgs (aSg W i a) i l = _
    have e : aSg W i a = (W.1.set i (wT (W.1.getD i nd0) (nt W.1 i ++ [a])), W.2) := by
      unfold aSg
      rw [Int.toNat_natCast, if_pos (by omega)]
    have e2 : nt (W.1.set i (wT (W.1.getD i nd0) (nt W.1 i ++ [a]))) i = nt W.1 i ++ [a] := by
      unfold nt
      rw [getD_set_s hi]
      rfl
    rw [e, ih _ i (by simpa using hi) (by simp only [e2, List.length_append, List.length_cons, List.length_nil]; omega)]
    simp only [e2, getD_set_s hi, set_set, List.append_assoc, List.cons_append, List.nil_append]
    rfl
theorem aKss_ok : ∀ (l : List Int) (W : TW) (i : Nat), i < W.1.length → (nq W.1 i).length + l.length ≤ 12 → aKss W i l = (W.1.set i (wQ (W.1.getD i nd0) (nq W.1 i ++ l)), W.2) := by
  intro l
  induction l with
  | nil =>
    intro W i hi _
    show W = _
    have e : wQ (W.1.getD i nd0) (nq W.1 i ++ []) = W.1.getD i nd0 := by rw [List.append_nil]; rfl
    rw [e, set_get hi]
  | cons a l ih =>
    intro W i hi hl
    simp only [List.length_cons] at hl
    show aKss (aKs W i a) i l = _
    have e : aKs W i a = (W.1.set i (wQ (W.1.getD i nd0) (nq W.1 i ++ [a])), W.2) := by
      unfold aKs
      rw [Int.toNat_natCast, if_pos (by omega)]
    have e2 : nq (W.1.set i (wQ (W.1.getD i nd0) (nq W.1 i ++ [a]))) i = nq W.1 i ++ [a] := by
      unfold nq
      rw [getD_set_s hi]
      rfl
    rw [e, ih _ i (by simpa using hi) (by simp only [e2, List.length_append, List.length_cons, List.length_nil]; omega)]
    simp only [e2, getD_set_s hi, set_set, List.append_assoc, List.cons_append, List.nil_append]
    rfl
theorem stK_ok {W : TW} {i : Nat} {l : List Int} (hi : i < W.1.length) (hl : l.length ≤ 12) : stK W i l = (W.1.set i (wQ (W.1.getD i nd0) l), W.2) := by
  unfold stK
  have e : cKy W i = (W.1.set i (wQ (W.1.getD i nd0) []), W.2) := by
    unfold cKy
    rw [Int.toNat_natCast, if_pos (by omega)]
  have e2 : nq (W.1.set i (wQ (W.1.getD i nd0) [])) i = [] := by
    unfold nq
    rw [getD_set_s hi]
    rfl
  rw [e, aKss_ok l _ i (by simpa using hi) (by simp only [e2, List.length_nil]; omega)]
  simp only [e2, getD_set_s hi, set_set, List.nil_append]
  rfl
def lzF : List Int → Nat
  | [] => 0
  | x :: l => if x = 48 then lzF l + 1 else 0
def tzF (l : List Int) (f : Nat) : Nat → Nat
  | 0 => 0
  | t + 1 => if f < t + 1 ∧ l.getD t 0 = 48 then tzF l f t else t + 1
theorem lzF_cons {x : Int} {l : List Int} : lzF (x :: l) = if x = 48 then lzF l + 1 else 0 := rfl
theorem lzF_le : ∀ l, lzF l ≤ l.length
  | [] => Nat.le_refl _
  | x :: l => by
    have := lzF_le l
    unfold lzF
    simp only [List.length_cons]
    split <;> omega
theorem tzF_r (l : List Int) (f : Nat) : ∀ t, f ≤ t → f ≤ tzF l f t ∧ tzF l f t ≤ t
  | 0, h => ⟨h, Nat.le_refl _⟩
  | t + 1, h => by
    unfold tzF
    split
    · have := tzF_r l f t (by omega)
      omega
    · omega
/-- the signs and the POWER of a NUMBER: figures times 10 to a power -/
def nmF (l : List Int) : Nat := lzF l
def nmT (l : List Int) : Nat := tzF l (lzF l) l.length
def nmSg (neg : Int) (l : List Int) : List Int := if nmF l = nmT l then [48] else (if neg = 0 then [] else [45]) ++ (l.take (nmT l)).drop (nmF l)
def nmPw (l : List Int) (p : Int) : Int := if nmF l = nmT l then 0 else p + l.length - nmT l
def nmOk (l : List Int) (p : Int) : Int := if nmF l = nmT l ∨ (-99 ≤ nmPw l p ∧ nmPw l p ≤ 99) then 1 else 0
def stN (W : TW) (i : Nat) (neg : Int) (l : List Int) (p : Int) : TW := (W.1.set i (wP (wT (W.1.getD i nd0) (nmSg neg l)) (nmPw l p)), W.2)
section KEY
variable {S S0 : GS} {c d : Nat} {W : TW}
theorem sv_ty {c2 : Nat} {l : List Int} (hc : gT c) (hc2 : gSh c2) (hv : SV S0 c2 l) (h : TY c S0 W S) : SV S c2 l := sv_fr hv h.2.2.1 (by unfold trM; omega) (by unfold trM; omega)
theorem tv_ty {c2 : Nat} {U : List ND} (hc : gT c) (hc2 : gT c2) (hne : c2 ≠ c) (hv : TV S0 c2 U) (h : TY c S0 W S) : TV S c2 U := tv_fr hv h.2.2.1 (fun k h1 h2 => by unfold trM; omega)
theorem setKey_7 {c2 : Nat} {l : List Int} {i : Int} (hc : gT c) (hc2 : gSh c2) (hd : 1 ≤ d) (hv : SV S0 c2 l) (hl : ∀ x ∈ l, x < 256) (hi : inr i) : ∀ (m t : Nat) (S : GS) (W : TW), l.length - t < m → t ≤ l.length → TY c S0 W S → Ev (fun n => f_X10_setKey n d 7 S [((c : Nat) : Int), i, ((c2 : Nat) : Int), (t : Int)]) (fun _ S1 => TY c S0 (aKss W i (l.drop t)) S1) := by
  have hll := sv_le hv
  intro m
  induction m with
  | zero => intros; omega
  | succ m ih =>
    intro t S W hm ht h
    have hv' := sv_ty hc hc2 hv h
    by_cases e : t < l.length
    · have a1 := sv_at hv e
      have a2 := hl _ (gD_mem e)
      have a3 := atD_nat e
      rw [drop_one e]
      refine ev_up (fun n => e_X10_setKey_7) ?_
      unfold b_X10_setKey_7
      repeat' (first
        | with_reducible refine ev_gv ?_
        | with_reducible refine ev_gg ?_ ?_
        | with_reducible refine ev_ite (fun _ => ?_) (fun _ => ?_)
        | refine ev_gcr (s9_length hc2 hv') ?_
        | refine ev_gcr (s9_at hc2 hv' (by constructor <;> omega)) ?_
        | omega
        | assumption)
      rw [a3]
      refine ev_gc (ty_addKeySign hc h hi ⟨a1.1, a2⟩) (fun _ S1 h1 => ?_)
      refine ev_gv ?_
      exact ih (t + 1) S1 _ (by omega) (by omega) h1
    · rw [List.drop_eq_nil_of_le (by omega)]
      refine ev_up (fun n => e_X10_setKey_7) ?_
      unfold b_X10_setKey_7
      repeat' (first
        | with_reducible refine ev_gv ?_
        | with_reducible refine ev_gg ?_ ?_
        | with_reducible refine ev_ite (fun _ => ?_) (fun _ => ?_)
        | refine ev_gcr (s9_length hc2 hv') ?_
        | omega
        | assumption)
      exact ev_ret h
theorem ty_setKey {c2 : Nat} {l : List Int} {i : Int} (hc : gT c) (hc2 : gSh c2) (hd : 1 ≤ d) (hv : SV S0 c2 l) (hl : ∀ x ∈ l, x < 256) (hi : inr i) (h : TY c S0 W S) : Ev (fun n => f_X10_setKey n d 0 S [((c : Nat) : Int), i, ((c2 : Nat) : Int)]) (fun _ S1 => TY c S0 (stK W i l) S1) := by
  refine ev_up (fun n => e_X10_setKey_0) ?_
  unfold b_X10_setKey_0
  repeat' (first
    | with_reducible refine ev_gv ?_
    | with_reducible refine ev_gg ?_ ?_
    | with_reducible refine ev_ite (fun _ => ?_) (fun _ => ?_)
    | omega
    | assumption)
  refine ev_gc (ty_clearKey hc h hi) (fun _ S1 h1 => ?_)
  exact setKey_7 hc hc2 hd hv hl hi _ 0 S1 _ (Nat.lt_succ_self _) (Nat.zero_le _) h1
theorem setKeyW_7 {w : Nat} {i : Int} (hc : gT c) (hw : w < 54) (hd : 4 ≤ d) (hi : inr i) : ∀ (m t : Nat) (S : GS) (W : TW), (sx w).length - t < m → t ≤ (sx w).length → TY c S0 W S → Ev (fun n => f_X10_setKeyWord n d 7 S [((c : Nat) : Int), i, ((w : Nat) : Int), (t : Int)]) (fun _ S1 => TY c S0 (aKss W i ((sx w).drop t)) S1) := by
  have h3 := sx_len w
  have h4 := xlen_le2 w hw
  intro m
  induction m with
  | zero => intros; omega
  | succ m ih =>
    intro t S W hm ht h
    by_cases e : t < (sx w).length
    · have a1 : 0 ≤ xch w (t : Int).toNat ∧ xch w (t : Int).toNat < 128 := xch_rng w hw t (by omega)
      have a2 : (sx w).getD t 0 = xch w (t : Int).toNat := sx_at (by omega)
      rw [drop_one e, a2]
      refine ev_up (fun n => e_X10_setKeyWord_7) ?_
      unfold b_X10_setKeyWord_7
      repeat' (first
        | with_reducible refine ev_gv ?_
        | with_reducible refine ev_gg ?_ ?_
        | with_reducible refine ev_ite (fun _ => ?_) (fun _ => ?_)
        | omega
        | assumption)
      refine ev_gc (ty_addKeySign hc h hi (by omega)) (fun _ S1 h1 => ?_)
      refine ev_gv ?_
      exact ih (t + 1) S1 _ (by omega) (by omega) h1
    · rw [List.drop_eq_nil_of_le (by omega)]
      refine ev_up (fun n => e_X10_setKeyWord_7) ?_
      unfold b_X10_setKeyWord_7
      repeat' (first
        | with_reducible refine ev_gv ?_
        | with_reducible refine ev_gg ?_ ?_
        | with_reducible refine ev_ite (fun _ => ?_) (fun _ => ?_)
        | omega
        | assumption)
      exact ev_ret h
theorem ty_setKeyWord {w : Nat} {i : Int} (hc : gT c) (hw : w < 54) (hd : 4 ≤ d) (hi : inr i) (h : TY c S0 W S) : Ev (fun n => f_X10_setKeyWord n d 0 S [((c : Nat) : Int), i, ((w : Nat) : Int)]) (fun _ S1 => TY c S0 (stK W i (sx w)) S1) := by
  refine ev_up (fun n => e_X10_setKeyWord_0) ?_
  unfold b_X10_setKeyWord_0
  repeat' (first
    | with_reducible refine ev_gv ?_
    | with_reducible refine ev_gg ?_ ?_
    | with_reducible refine ev_ite (fun _ => ?_) (fun _ => ?_)
    | omega
    | assumption)
  refine ev_gc (ty_clearKey hc h hi) (fun _ S1 h1 => ?_)
  exact setKeyW_7 hc hw hd hi _ 0 S1 _ (Nat.lt_succ_self _) (Nat.zero_le _) h1
theorem setKeyL_8 {c2 : Nat} {U : List ND} {i j : Int} (hc : gT c) (hc2 : gT c2) (hne : c2 ≠ c) (hd : 1 ≤ d) (hv : TV S0 c2 U) (hi : inr i) (hj : inr j) : ∀ (m t : Nat) (S : GS) (W : TW), (kI U j).length - t < m → t ≤ (kI U j).length → TY c S0 W S → Ev (fun n => f_X10_setKeyLike n d 8 S [((c : Nat) : Int), i, ((c2 : Nat) : Int), j, (t : Int)]) (fun _ S1 => TY c S0 (aKss W i ((kI U j).drop t)) S1) := by
  have hll := (kI_r hv j).1
  intro m
  induction m with
  | zero => intros; omega
  | succ m ih =>
    intro t S W hm ht h
    have hv' := tv_ty hc hc2 hne hv h
    by_cases e : t < (kI U j).length
    · have a1 := kI_at hv e
      have a3 := atD_nat e
      rw [drop_one e]
      refine ev_up (fun n => e_X10_setKeyLike_8) ?_
      unfold b_X10_setKeyLike_8
      repeat' (first
        | with_reducible refine ev_gv ?_
        | with_reducible refine ev_gg ?_ ?_
        | with_reducible refine ev_ite (fun _ => ?_) (fun _ => ?_)
        | refine ev_gcr (t_keyLen hc2 hv' hj) ?_
        | refine ev_gcr (t_keySign hc2 hv' hj (by constructor <;> omega)) ?_
        | omega
        | assumption)
      rw [a3]
      refine ev_gc (ty_addKeySign hc h hi a1) (fun _ S1 h1 => ?_)
      refine ev_gv ?_
      exact ih (t + 1) S1 _ (by omega) (by omega) h1
    · rw [List.drop_eq_nil_of_le (by omega)]
      refine ev_up (fun n => e_X10_setKeyLike_8) ?_
      unfold b_X10_setKeyLike_8
      repeat' (first
        | with_reducible refine ev_gv ?_
        | with_reducible refine ev_gg ?_ ?_
        | with_reducible refine ev_ite (fun _ => ?_) (fun _ => ?_)
        | refine ev_gcr (t_keyLen hc2 hv' hj) ?_
        | omega
        | assumption)
      exact ev_ret h
theorem ty_setKeyLike {c2 : Nat} {U : List ND} {i j : Int} (hc : gT c) (hc2 : gT c2) (hne : c2 ≠ c) (hd : 1 ≤ d) (hv : TV S0 c2 U) (hi : inr i) (hj : inr j) (h : TY c S0 W S) : Ev (fun n => f_X10_setKeyLike n d 0 S [((c : Nat) : Int), i, ((c2 : Nat) : Int), j]) (fun _ S1 => TY c S0 (stK W i (kI U j)) S1) := by
  refine ev_up (fun n => e_X10_setKeyLike_0) ?_
  unfold b_X10_setKeyLike_0
  repeat' (first
    | with_reducible refine ev_gv ?_
    | with_reducible refine ev_gg ?_ ?_
    | with_reducible refine ev_ite (fun _ => ?_) (fun _ => ?_)
    | omega
    | assumption)
  refine ev_gc (ty_clearKey hc h hi) (fun _ S1 h1 => ?_)
  exact setKeyL_8 hc hc2 hne hd hv hi hj _ 0 S1 _ (Nat.lt_succ_self _) (Nat.zero_le _) h1
theorem num_114 {c2 i : Nat} {l : List Int} {p : Int} {e : Nat} (hc : gT c) (hc2 : gSh c2) (hd : 1 ≤ d) (hv : SV S0 c2 l) (hl : ∀ x ∈ l, x < 256) (hl2 : l.length ≤ 24) (hp : -150 ≤ p ∧ p ≤ 150) (he : e ≤ l.length) : ∀ (m t : Nat) (S : GS) (W : TW), e - t < m → t ≤ e → i < W.1.length → (nt W.1 i).length + (e - t) ≤ 40 → TY c S0 W S → Ev (fun n => f_X10_setNumber n d 114 S [((c : Nat) : Int), (i : Int), ((c2 : Nat) : Int), p, (e : Int), (t : Int)]) (fun x S1 => x = (if -99 ≤ p + l.length - e ∧ p + l.length - e ≤ 99 then 1 else 0) ∧ TY c S0 (W.1.set i (wP (wT (W.1.getD i nd0) (nt W.1 i ++ (l.take e).drop t)) (p + l.length - e)), W.2) S1) := by
  have hlen : (l.take e).length = e := by rw [List.length_take]; omega
  intro m
  induction m with
  | zero => intros; omega
  | succ m ih =>
    intro t S W hm ht hi hroom h
    have hv' := sv_ty hc hc2 hv h
    have l1 := tv_l h.1
    by_cases e1 : t < e
    · have a1 := sv_at hv (i := t) (by omega)
      have a2 := hl _ (gD_mem (show t < l.length by omega))
      have a3 := atD_nat (l := l) (i := t) (by omega)
      have e4 : (l.take e).drop t = l.getD t 0 :: (l.take e).drop (t + 1) := by
        rw [drop_one (by omega), List.getD_eq_getElem?_getD, List.getElem?_take, if_pos e1, ← List.getD_eq_getElem?_getD]
      refine ev_up (fun n => e_X10_setNumber_114) ?_
      unfold b_X10_setNumber_114
      repeat' (first
        | with_reducible refine ev_gv ?_
        | with_reducible refine ev_gg ?_ ?_
        | with_reducible refine ev_ite (fun _ => ?_) (fun _ => ?_)
        | refine ev_gcr (s9_at hc2 hv' (by constructor <;> omega)) ?_
        | omega
        | assumption)
      rw [a3]
      refine ev_gc (ty_addSign hc h (by constructor <;> omega) ⟨a1.1, a2⟩) (fun _ S1 h1 => ?_)
      refine ev_gv ?_
      have e5 := aSgs_ok [l.getD t 0] W i hi (by simp; omega)
      have e6 : aSgs W (i : Int) [l.getD t 0] = aSg W i (l.getD t 0) := rfl
      rw [e6] at e5
      rw [e5] at h1
      have e2 : nt (W.1.set i (wT (W.1.getD i nd0) (nt W.1 i ++ [l.getD t 0]))) i = nt W.1 i ++ [l.getD t 0] := by
        unfold nt
        rw [getD_set_s hi]
        rfl
      have k := ih (t + 1) S1 _ (by omega) (by omega) (by simpa using hi) (by simp only [e2, List.length_append, List.length_cons, List.length_nil]; omega) h1
      simp only [e2, getD_set_s hi, set_set, List.append_assoc, List.cons_append, List.nil_append] at k
      rw [e4]
      exact k
    · have k := tx_power (i := i) (p := p + l.length - e) hc h hi (by omega)
      rw [List.drop_eq_nil_of_le (by omega), List.append_nil]
      have e7 : wT (W.1.getD i nd0) (nt W.1 i) = W.1.getD i nd0 := rfl
      rw [e7]
      have e8 : (gI S (c + 3) (i : Int).toNat (p + l.length - e)).1 (c + 3) (i : Int).toNat = p + l.length - e := gI_a
      refine ev_up (fun n => e_X10_setNumber_114) ?_
      unfold b_X10_setNumber_114
      repeat' (first
        | with_reducible refine ev_gv ?_
        | with_reducible refine ev_gg ?_ ?_
        | with_reducible refine ev_ite (fun _ => ?_) (fun _ => ?_)
        | refine ev_gcr (s9_length hc2 hv') ?_
        | omega
        | assumption
        | simp (disch := omega) only [gI_a, gI_k, gI_c, gI_b, gB_i, gB_a, gB_k, gB_c, gB_r, gR_i, gR_b, gR_a, gR_k, gR_c, gIs_a, gIs_c, gIs_b, Int.toNat_natCast])
      · refine ev_ret ⟨(if_neg (by omega)).symm, k⟩
      · refine ev_ret ⟨(if_pos (by omega)).symm, k⟩
theorem num_69 {c2 i f e : Nat} {l : List Int} {neg p : Int} (hc : gT c) (hc2 : gSh c2) (hd : 2 ≤ d) (hv : SV S0 c2 l) (hl : ∀ x ∈ l, x < 256) (hl2 : l.length ≤ 24) (hp : -150 ≤ p ∧ p ≤ 150) (he : e ≤ l.length) (hf : f ≤ e) (hi : i < W.1.length) (hneg : inr neg) (h : TY c S0 W S) : Ev (fun n => f_X10_setNumber n d 69 S [((c : Nat) : Int), (i : Int), neg, ((c2 : Nat) : Int), p, (f : Int), (e : Int)]) (fun x S1 => x = (if f = e ∨ (-99 ≤ p + l.length - e ∧ p + l.length - e ≤ 99) then 1 else 0) ∧ TY c S0 (W.1.set i (wP (wT (W.1.getD i nd0) (if f = e then [48] else (if neg = 0 then [] else [45]) ++ (l.take e).drop f)) (if f = e then 0 else p + l.length - e)), W.2) S1) := by
  have l1 := tv_l h.1
  have h0 := tx_text0 hc h hi
  have h0' : TY c S0 (W.1.set i (wT (W.1.getD i nd0) []), W.2) (gI S (c + 4) (i : Int).toNat 0) := h0
  have hi' : i < (W.1.set i (wT (W.1.getD i nd0) [])).length := by simpa using hi
  have e2 : nt (W.1.set i (wT (W.1.getD i nd0) [])) i = [] := by
    unfold nt
    rw [getD_set_s hi]
    rfl
  have key : ∀ a : Int, 0 ≤ a ∧ a < 256 → Ev (fun n => f_X10_addSign n (d - 1) 0 (gI S (c + 4) (i : Int).toNat 0) [((c : Nat) : Int), (i : Int), a]) (fun _ S1 => TY c S0 (W.1.set i (wT (W.1.getD i nd0) [a]), W.2) S1) := by
    intro a ha
    refine ev_mono (ty_addSign hc h0' (by constructor <;> omega) ha) (fun _ S1 q => ?_)
    have e5 := aSgs_ok [a] (W.1.set i (wT (W.1.getD i nd0) []), W.2) i hi' (by rw [e2]; simp)
    have e6 : aSgs (W.1.set i (wT (W.1.getD i nd0) []), W.2) (i : Int) [a] = aSg (W.1.set i (wT (W.1.getD i nd0) []), W.2) i a := rfl
    rw [e6] at e5
    rw [e5] at q
    simp only [e2, getD_set_s hi, set_set, List.nil_append] at q
    exact q
  refine ev_up (fun n => e_X10_setNumber_69) ?_
  unfold b_X10_setNumber_69
  by_cases e1 : f = e
  · simp only [if_pos e1]
    repeat' (first
      | with_reducible refine ev_gv ?_
      | with_reducible refine ev_gg ?_ ?_
      | with_reducible refine ev_ite (fun _ => ?_) (fun _ => ?_)
      | omega
      | assumption)
    refine ev_gc (key 48 (by decide)) (fun _ S1 h1 => ?_)
    have k := tx_power (i := i) (p := 0) hc h1 (by simpa using hi) (by decide)
    simp only [getD_set_s hi, set_set] at k
    repeat' (first
      | with_reducible refine ev_gv ?_
      | with_reducible refine ev_gg ?_ ?_
      | with_reducible refine ev_ite (fun _ => ?_) (fun _ => ?_)
      | omega
      | assumption)
    exact ev_ret ⟨(if_pos (Or.inl e1)).symm, k⟩
  · simp only [if_neg e1]
    have e9 : (f = e ∨ (-99 ≤ p + (l.length : Int) - e ∧ p + (l.length : Int) - e ≤ 99)) ↔ (-99 ≤ p + (l.length : Int) - e ∧ p + (l.length : Int) - e ≤ 99) := by omega
    simp only [e9]
    repeat' (first
      | with_reducible refine ev_gv ?_
      | with_reducible refine ev_gg ?_ ?_
      | with_reducible refine ev_ite (fun _ => ?_) (fun _ => ?_)
      | omega
      | assumption)
    · have k := num_114 (d := d) (i := i) hc hc2 (by omega) hv hl hl2 hp he _ f _ _ (Nat.lt_succ_self _) hf hi' (by rw [e2]; simp; omega) h0'
      simp only [e2, getD_set_s hi, set_set, List.nil_append] at k
      rename_i hn
      simp only [if_pos hn, List.nil_append]
      exact k
    · rename_i hn
      refine ev_gc (key 45 (by decide)) (fun _ S1 h1 => ?_)
      have e3 : nt (W.1.set i (wT (W.1.getD i nd0) [45])) i = [45] := by
        unfold nt
        rw [getD_set_s hi]
        rfl
      have k := num_114 (d := d) (i := i) hc hc2 (by omega) hv hl hl2 hp he _ f _ _ (Nat.lt_succ_self _) hf (by simpa using hi) (by simp only [e3]; simp; omega) h1
      simp only [e3, getD_set_s hi, set_set] at k
      simp only [if_neg hn]
      exact k
theorem num_43 {c2 i f : Nat} {l : List Int} {neg p : Int} (hc : gT c) (hc2 : gSh c2) (hd : 2 ≤ d) (hv : SV S0 c2 l) (hl : ∀ x ∈ l, x < 256) (hl2 : l.length ≤ 24) (hp : -150 ≤ p ∧ p ≤ 150) (hi : i < W.1.length) (hneg : inr neg) (h : TY c S0 W S) : ∀ (e : Nat), e ≤ l.length → f ≤ e → Ev (fun n => f_X10_setNumber n d 43 S [((c : Nat) : Int), (i : Int), neg, ((c2 : Nat) : Int), p, (f : Int), (e : Int)]) (fun x S1 => x = (if f = tzF l f e ∨ (-99 ≤ p + l.length - (tzF l f e : Nat) ∧ p + l.length - (tzF l f e : Nat) ≤ 99) then 1 else 0) ∧ TY c S0 (W.1.set i (wP (wT (W.1.getD i nd0) (if f = tzF l f e then [48] else (if neg = 0 then [] else [45]) ++ (l.take (tzF l f e)).drop f)) (if f = tzF l f e then 0 else p + l.length - (tzF l f e : Nat))), W.2) S1) := by
  have hv' := sv_ty hc hc2 hv h
  intro e
  induction e with
  | zero =>
    intro h1 h2
    have k := num_69 (d := d) (f := f) (e := 0) (neg := neg) hc hc2 hd hv hl hl2 hp (by omega) (by omega) hi hneg h
    have e1 : tzF l f 0 = 0 := rfl
    rw [e1]
    refine ev_up (fun n => e_X10_setNumber_43) ?_
    unfold b_X10_setNumber_43
    repeat' (first
      | with_reducible refine ev_gv ?_
      | with_reducible refine ev_gg ?_ ?_
      | with_reducible refine ev_ite (fun _ => ?_) (fun _ => ?_)
      | omega
      | assumption)
    all_goals exact k
  | succ e ih =>
    intro h1 h2
    by_cases e1 : f < e + 1
    · have a1 := sv_at hv (i := e) (by omega)
      have a3 := atD_nat (l := l) (i := e) (by omega)
      rw [show (e : Int) = ((e + 1 : Nat) : Int) - 1 by omega] at a3
      by_cases e2 : l.getD e 0 = 48
      · have e3 : tzF l f (e + 1) = tzF l f e := if_pos ⟨e1, e2⟩
        have k := ih (by omega) (by omega)
        rw [show (e : Int) = ((e + 1 : Nat) : Int) + -1 by omega] at k
        rw [e3]
        refine ev_up (fun n => e_X10_setNumber_43) ?_
        unfold b_X10_setNumber_43
        repeat' (first
          | with_reducible refine ev_gv ?_
          | with_reducible refine ev_gg ?_ ?_
          | with_reducible refine ev_ite (fun _ => ?_) (fun _ => ?_)
          | refine ev_gcr (s9_at hc2 hv' (by constructor <;> omega)) ?_
          | omega
          | assumption)
        all_goals exact k
      · have e3 : tzF l f (e + 1) = e + 1 := if_neg (fun q => e2 q.2)
        have k := num_69 (d := d) (f := f) (e := e + 1) (neg := neg) hc hc2 hd hv hl hl2 hp (by omega) (by omega) hi hneg h
        rw [e3]
        refine ev_up (fun n => e_X10_setNumber_43) ?_
        unfold b_X10_setNumber_43
        repeat' (first
          | with_reducible refine ev_gv ?_
          | with_reducible refine ev_gg ?_ ?_
          | with_reducible refine ev_ite (fun _ => ?_) (fun _ => ?_)
          | refine ev_gcr (s9_at hc2 hv' (by constructor <;> omega)) ?_
          | omega
          | assumption)
        all_goals exact k
    · have e3 : tzF l f (e + 1) = e + 1 := if_neg (fun q => e1 q.1)
      have k := num_69 (d := d) (f := f) (e := e + 1) (neg := neg) hc hc2 hd hv hl hl2 hp (by omega) (by omega) hi hneg h
      rw [e3]
      refine ev_up (fun n => e_X10_setNumber_43) ?_
      unfold b_X10_setNumber_43
      repeat' (first
        | with_reducible refine ev_gv ?_
        | with_reducible refine ev_gg ?_ ?_
        | with_reducible refine ev_ite (fun _ => ?_) (fun _ => ?_)
        | omega
        | assumption)
      all_goals exact k
theorem num_19 {c2 i : Nat} {l : List Int} {neg p : Int} (hc : gT c) (hc2 : gSh c2) (hd : 2 ≤ d) (hv : SV S0 c2 l) (hl : ∀ x ∈ l, x < 256) (hl2 : l.length ≤ 24) (hp : -150 ≤ p ∧ p ≤ 150) (hi : i < W.1.length) (hneg : inr neg) (h : TY c S0 W S) : ∀ (m f : Nat), l.length - f < m → f ≤ l.length → lzF l = f + lzF (l.drop f) → Ev (fun n => f_X10_setNumber n d 19 S [((c : Nat) : Int), (i : Int), neg, ((c2 : Nat) : Int), p, (f : Int), (l.length : Int)]) (fun x S1 => x = nmOk l p ∧ TY c S0 (stN W i neg l p) S1) := by
  have hv' := sv_ty hc hc2 hv h
  have fin : Ev (fun n => f_X10_setNumber n d 43 S [((c : Nat) : Int), (i : Int), neg, ((c2 : Nat) : Int), p, ((lzF l : Nat) : Int), (l.length : Int)]) (fun x S1 => x = nmOk l p ∧ TY c S0 (stN W i neg l p) S1) := by
    have k := num_43 (d := d) (f := lzF l) (neg := neg) hc hc2 hd hv hl hl2 hp hi hneg h l.length (Nat.le_refl _) (lzF_le l)
    refine ev_mono k (fun x S1 q => ⟨?_, ?_⟩)
    · rw [q.1]
      unfold nmOk nmPw nmF nmT
      by_cases e : lzF l = tzF l (lzF l) l.length
      · rw [if_pos (Or.inl e), if_pos (Or.inl e)]
      · simp only [if_neg e]
    · exact q.2
  intro m
  induction m with
  | zero => intros; omega
  | succ m ih =>
    intro f hm hf hlz
    by_cases e1 : f < l.length
    · have a1 := sv_at hv e1
      have a3 := atD_nat e1
      rw [drop_one e1, lzF_cons] at hlz
      by_cases e2 : l.getD f 0 = 48
      · rw [if_pos e2] at hlz
        have k := ih (f + 1) (by omega) (by omega) (by omega)
        refine ev_up (fun n => e_X10_setNumber_19) ?_
        unfold b_X10_setNumber_19
        repeat' (first
          | with_reducible refine ev_gv ?_
          | with_reducible refine ev_gg ?_ ?_
          | with_reducible refine ev_ite (fun _ => ?_) (fun _ => ?_)
          | refine ev_gcr (s9_at hc2 hv' (by constructor <;> omega)) ?_
          | omega
          | assumption)
        all_goals exact k
      · rw [if_neg e2] at hlz
        rw [hlz] at fin
        refine ev_up (fun n => e_X10_setNumber_19) ?_
        unfold b_X10_setNumber_19
        repeat' (first
          | with_reducible refine ev_gv ?_
          | with_reducible refine ev_gg ?_ ?_
          | with_reducible refine ev_ite (fun _ => ?_) (fun _ => ?_)
          | refine ev_gcr (s9_at hc2 hv' (by constructor <;> omega)) ?_
          | omega
          | assumption)
        all_goals exact fin
    · rw [List.drop_eq_nil_of_le (by omega)] at hlz
      have e3 : lzF [] = 0 := rfl
      rw [e3] at hlz
      rw [hlz] at fin
      refine ev_up (fun n => e_X10_setNumber_19) ?_
      unfold b_X10_setNumber_19
      repeat' (first
        | with_reducible refine ev_gv ?_
        | with_reducible refine ev_gg ?_ ?_
        | with_reducible refine ev_ite (fun _ => ?_) (fun _ => ?_)
        | omega
        | assumption)
      all_goals exact fin
theorem ty_setNumber {c2 i : Nat} {l : List Int} {neg p : Int} (hc : gT c) (hc2 : gSh c2) (hd : 2 ≤ d) (hv : SV S0 c2 l) (hl : ∀ x ∈ l, x < 256) (hl2 : l.length ≤ 24) (hp : -150 ≤ p ∧ p ≤ 150) (hi : i < W.1.length) (hneg : inr neg) (h : TY c S0 W S) : Ev (fun n => f_X10_setNumber n d 0 S [((c : Nat) : Int), (i : Int), neg, ((c2 : Nat) : Int), p]) (fun x S1 => x = nmOk l p ∧ TY c S0 (stN W i neg l p) S1) := by
  have l1 := tv_l h.1
  have hv' := sv_ty hc hc2 hv h
  have k := num_19 (d := d) (i := i) (neg := neg) hc hc2 hd hv hl hl2 hp hi hneg h _ 0 (Nat.lt_succ_self _) (Nat.zero_le _) (by simp)
  refine ev_up (fun n => e_X10_setNumber_0) ?_
  unfold b_X10_setNumber_0
  repeat' (first
    | with_reducible refine ev_gv ?_
    | with_reducible refine ev_gg ?_ ?_
    | with_reducible refine ev_ite (fun _ => ?_) (fun _ => ?_)
    | refine ev_gcr (rd_as (t_has hc h.1 (i := (i : Int)) (by constructor <;> omega)) (if_pos (by omega))) ?_
    | refine ev_gcr (s9_length hc2 hv') ?_
    | omega
    | assumption)
  all_goals exact k
end KEY
