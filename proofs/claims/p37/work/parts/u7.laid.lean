/-! p37: ORDERS by parts of PATHS are laid -/
def wrd (o : SEG) : WRD := (o.1, o.2.1.map une, o.2.2)
/-- ORDERS, one behind the other; P holds behind each -/
def lyQ (P : List ND → Prop) : List SEG → List ND → List ND → Prop
  | [], T, U => U = T
  | o :: X, T, U => ∃ T1, edR (wrd o) T T1 ∧ P T1 ∧ lyQ P X T1 U
theorem lyQ_app {P : List ND → Prop} : ∀ (X Y : List SEG) (T U W : List ND), lyQ P X T U → lyQ P Y U W → lyQ P (X ++ Y) T W
  | [], Y, T, U, W, h, g => by
    have h : U = T := h
    rw [h] at g
    exact g
  | o :: X, Y, T, U, W, h, g => by
    obtain ⟨T1, h1, h2, h3⟩ := h
    exact ⟨T1, h1, h2, lyQ_app X Y T1 U W h3 g⟩
theorem lyQ_end {P : List ND → Prop} : ∀ (X : List SEG) (T U : List ND), P T → lyQ P X T U → P U
  | [], T, U, h, g => by
    have g : U = T := g
    rw [g]; exact h
  | o :: X, T, U, h, g => by
    obtain ⟨T1, h1, h2, h3⟩ := g
    exact lyQ_end X T1 U h2 h3
/-- parts of PATHS and VALUES that are in order -/
abbrev segOK (o : SEG) : Prop := (∀ s ∈ o.2.1, sgOK s) ∧ ∀ t ∈ o.2.2, TR t ∧ PZL t
theorem lyQ_T : ∀ (X : List SEG) (V W : List ND), (∀ o ∈ X, segOK o) → lyQ DOC X V W → lyT (toO [] X) V W
  | [], V, W, _, h => h
  | o :: X, V, W, hs, h => by
    obtain ⟨T1, h1, h2, h3⟩ := h
    have so := hs o List.mem_cons_self
    obtain ⟨a, b⟩ := txt_ok _ o.2.1 rfl so.1
    refine ⟨T1, ⟨a, so.2⟩, ?_, h2, lyQ_T X T1 W (fun p hp => hs p (List.mem_cons_of_mem _ hp)) h3⟩
    show edR (o.1, wds (txt o.2.1), o.2.2) V T1
    rw [b]
    exact h1
theorem lyQ_mono {P Q : List ND → Prop} (h : ∀ T, P T → Q T) : ∀ (X : List SEG) (T U : List ND), lyQ P X T U → lyQ Q X T U
  | [], _, _, g => g
  | o :: X, T, U, g => by
    obtain ⟨T1, h1, h2, h3⟩ := g
    exact ⟨T1, h1, h T1 h2, lyQ_mono h X T1 U h3⟩
/-- an ORDER within a VALUE -/
theorem ed_pre {op : Nat} {w : List Int} {ws : List (List Int)} {v : List (List ND)} {x : ND} {A B : List (List ND)} {e e1 : List ND} (hE : ∀ t ∈ A ++ e :: B, TR t ∧ PZL t) (hi : (x.1 = 5 ∧ rq e = w) ∨ (x.1 = 4 ∧ plN w = (A.length : Int))) (h : edR (op, ws, v) e e1) : edR (op, w :: ws, v) (gpN x (A ++ e :: B) (A ++ e :: B).length) (gpN x (A ++ e1 :: B) (A ++ e1 :: B).length) := by
  have k : kd (gpN x (A ++ e :: B) (A ++ e :: B).length) = A ++ e :: B := kd_gp hE
  have up : ∀ (hh : List ND → List ND → Prop) (us : List (List Int)), atR hh us e e1 → atR hh (w :: us) (gpN x (A ++ e :: B) (A ++ e :: B).length) (gpN x (A ++ e1 :: B) (A ++ e1 :: B).length) := fun hh us a => ⟨A, e, e1, B, k, hi, a, rfl⟩
  rcases h with ⟨e1, t, e2, a⟩ | ⟨e1, e2, us, u, e3, a⟩ | ⟨e1, t, us, u, e2, e3, a⟩
  · exact Or.inl ⟨e1, t, e2, up _ _ a⟩
  · have e3 : ws = us ++ [u] := e3
    exact Or.inr (Or.inl ⟨e1, e2, w :: us, u, by rw [e3]; rfl, up _ _ a⟩)
  · have e3 : ws = us ++ [u] := e3
    exact Or.inr (Or.inr ⟨e1, t, w :: us, u, e2, by rw [e3]; rfl, up _ _ a⟩)
theorem lyQ_pre {P Q : List ND → Prop} {s : List Int} {x : ND} {A B : List (List ND)} {q : List Int} (hAB : ∀ t ∈ A ++ B, TR t ∧ PZL t) (hi : (x.1 = 5 ∧ q = une s) ∨ (x.1 = 4 ∧ plN (une s) = (A.length : Int))) (hP : ∀ c, P c → (TR c ∧ PZL c) ∧ rq c = q ∧ Q (gpN x (A ++ c :: B) (A ++ c :: B).length)) : ∀ (X : List SEG) (e e' : List ND), (TR e ∧ PZL e) → rq e = q → lyQ P X e e' → lyQ Q (pre1 s X) (gpN x (A ++ e :: B) (A ++ e :: B).length) (gpN x (A ++ e' :: B) (A ++ e' :: B).length)
  | [], e, e', _, _, h => by
    have h : e' = e := h
    rw [h]
    rfl
  | o :: X, e, e', he, hq, h => by
    obtain ⟨T1, h1, h2, h3⟩ := h
    obtain ⟨p1, p2, p3⟩ := hP T1 h2
    refine ⟨gpN x (A ++ T1 :: B) (A ++ T1 :: B).length, ?_, p3, lyQ_pre hAB hi hP X T1 e' p1 p2 h3⟩
    refine ed_pre (w := une s) (fun t ht => ?_) ?_ h1
    · rcases List.mem_append.mp ht with z | z
      · exact hAB t (List.mem_append_left _ z)
      · rcases List.mem_cons.mp z with z | z
        · rw [z]; exact he
        · exact hAB t (List.mem_append_right _ z)
    · exact hi.imp (fun z => ⟨z.1, hq.trans z.2⟩) id
/-- groups that are in order -/
theorem gp_sb {x : ND} {L : List (List ND)} {f : Nat} {q : List Int} {n : Nat} (hx : NR x ∧ VN x) (hf : (f : Int) ≤ 11) (hq : x.2.2.2.2 = q) (hL : ∀ t ∈ L, SB (f : Int) t) (hn : L.flatten.length + 1 ≤ n) (h100 : n ≤ 100) (h : (x.1 = 5 ∧ (L.map rq).Nodup) ∨ (x.1 = 4 ∧ ∀ t ∈ L, rq t = [])) : SB ((f : Int) + 1) (gpN x L L.length) ∧ rq (gpN x L L.length) = q ∧ (gpN x L L.length).length ≤ n := by
  have x4 : 4 ≤ x.1 := by rcases h with z | z <;> omega
  have sx : SDC (gpN x L L.length) := sdc_gp x4 hx (fun t ht => (hL t ht).1) (fun z => by
    rcases h with y | y
    · exact y.2
    · omega) (fun z => by
    rcases h with y | y
    · omega
    · exact y.2) (by omega)
  exact ⟨⟨sx, by rw [gp_len]; omega, fun g => dp_gp (b := (f : Int)) (by omega) (fun t ht => (hL t ht).1.1) (fun t ht => (hL t ht).2.2) g⟩, hq, by rw [gp_len]; omega⟩
theorem flat_app {A B : List (List ND)} : (A ++ B).flatten.length = A.flatten.length + B.flatten.length := by rw [List.flatten_append, List.length_append]
theorem flat_one {t : List ND} : ([t] : List (List ND)).flatten.length = t.length := by simp
theorem flat_con {t : List ND} {B : List (List ND)} : (t :: B).flatten.length = t.length + B.flatten.length := by rw [List.flatten_cons, List.length_append]
theorem flat_filter (p : List ND → Bool) : ∀ (L : List (List ND)), (L.filter p).flatten.length ≤ L.flatten.length
  | [] => Nat.le_refl _
  | t :: L => by
    have := flat_filter p L
    rw [List.filter_cons]
    split
    · rw [flat_con, flat_con]; omega
    · rw [flat_con]; omega
theorem flat_perm {A B : List (List ND)} (h : A.Perm B) : A.flatten.length = B.flatten.length := h.flatten.length_eq
