/-! THE REFERENCE reads: signs, texts, WORDS -/
/-- what is left of the text that is read -/
def RdS (S : GS) (t r : List Int) : Prop := S.1 500 15 = (t.length : Int) ∧ (t.length ≤ 900 ∧ ∀ x ∈ t, 0 ≤ x ∧ x < 256) ∧ (∀ i, i < t.length → S.1 508 i = t.getD i 0) ∧ ∃ p : Nat, p ≤ t.length ∧ S.1 500 16 = (p : Int) ∧ t.drop p = r
abbrev raP : Nat → Nat → Prop := fun c j => (c = 500 ∧ (j = 13 ∨ j = 16)) ∨ c = 507
section RDR
variable {S : GS} {d : Nat} {t r : List Int}
theorem rd_fr {P : Nat → Nat → Prop} {S S1 : GS} (h : RdS S t r) (hf : FC P S S1) (h1 : ¬ P 500 15) (h2 : ¬ P 500 16) (h3 : ∀ j, ¬ P 508 j) : RdS S1 t r := by
  obtain ⟨a, b, c, p, p1, p2, p3⟩ := h
  exact ⟨(fc_i hf h1).trans a, b, fun i hi => (fc_i hf (h3 i)).trans (c i hi), p, p1, (fc_i hf h2).trans p2, p3⟩
theorem rd_len (h : RdS S t r) : r.length ≤ 900 ∧ r.length ≤ t.length := by
  obtain ⟨a, b, c, p, p1, p2, p3⟩ := h
  rw [← p3, List.length_drop]
  omega
theorem rd_mem (h : RdS S t r) : ∀ x ∈ r, 0 ≤ x ∧ x < 256 := by
  obtain ⟨a, b, c, p, p1, p2, p3⟩ := h
  intro x hx
  rw [← p3] at hx
  exact b.2 x (List.mem_of_mem_drop hx)
theorem rd_hd (h : RdS S t r) : -1 ≤ hdI r ∧ hdI r < 256 := by
  cases r with
  | nil => exact ⟨by decide, by decide⟩
  | cons x r =>
    have := rd_mem h x List.mem_cons_self
    show -1 ≤ x ∧ x < 256
    omega
theorem rd_tl (h : RdS S t r) : ∀ x ∈ r.tail, 0 ≤ x ∧ x < 256 := fun x hx => rd_mem h x (List.mem_of_mem_tail hx)
/-- one sign on -/
theorem rd_on (h : RdS S t r) (hr : r ≠ []) : RdS (gI S 500 16 (S.1 500 16 + 1)) t r.tail := by
  obtain ⟨a, b, c, p, p1, p2, p3⟩ := h
  have lp : p < t.length := by
    by_cases q : p < t.length
    · exact q
    · rw [List.drop_eq_nil_of_le (by omega)] at p3; exact absurd p3.symm hr
  refine ⟨by rw [gI_k (by decide)]; exact a, b, fun i hi => by rw [gI_c (by decide)]; exact c i hi, p + 1, by omega, by rw [gI_a, p2]; omega, ?_⟩
  rw [← p3, List.tail_drop]
theorem rd_ne (h : 0 ≤ hdI r) : r ≠ [] := fun e => by rw [e] at h; exact absurd h (by decide)
theorem q_sign (h : RdS S t r) : Rd (fun n => f_X12_sign n d 0 S []) (hdI r) S := by
  obtain ⟨a, b, c, p, p1, p2, p3⟩ := h
  refine ev_up (fun n => e_X12_sign_0) ?_
  unfold b_X12_sign_0
  refine ev_gv ?_
  refine ev_gv ?_
  rw [a, p2]
  refine ev_gg (by first | omega | (constructor <;> omega)) ?_
  refine ev_gg (by first | omega | (constructor <;> omega)) ?_
  refine ev_ite (fun z => ?_) (fun z => ?_)
  · rw [List.drop_eq_nil_of_le (by omega)] at p3
    exact ev_ret ⟨by rw [← p3]; rfl, rfl⟩
  · refine ev_gv ?_
    refine ev_gg (by first | omega | (constructor <;> omega)) ?_
    refine ev_gv ?_
    rw [Int.toNat_natCast, c p (by omega)]
    exact ev_ret ⟨by rw [← p3, hdI_dr (by omega)], rfl⟩
theorem q_isBlank (h : RdS S t r) : Rd (fun n => f_X12_isBlank n d 0 S []) (if hdI r = 32 ∨ hdI r = 10 then 1 else 0) S := by
  have hr := rd_hd h
  obtain ⟨a, b, c, p, p1, p2, p3⟩ := h
  refine ev_up (fun n => e_X12_isBlank_0) ?_
  unfold b_X12_isBlank_0
  refine ev_gv ?_
  refine ev_gv ?_
  rw [a, p2]
  refine ev_gg (by first | omega | (constructor <;> omega)) ?_
  refine ev_gg (by first | omega | (constructor <;> omega)) ?_
  refine ev_ite (fun z => ?_) (fun z => ?_)
  · rw [List.drop_eq_nil_of_le (by omega)] at p3
    exact ev_ret ⟨by rw [← p3]; rfl, rfl⟩
  · refine ev_gv ?_
    refine ev_gg (by first | omega | (constructor <;> omega)) ?_
    refine ev_gv ?_
    rw [Int.toNat_natCast, c p (by omega), ← hdI_dr (by omega), p3]
    refine ev_gg (by first | omega | (constructor <;> omega)) ?_
    refine ev_ite (fun q => ?_) (fun q => ?_)
    · exact ev_ret ⟨by rw [if_pos (Or.inl q)], rfl⟩
    · refine ev_gv ?_
      refine ev_gg (by first | omega | (constructor <;> omega)) ?_
      refine ev_gv ?_
      rw [Int.toNat_natCast, c p (by omega), ← hdI_dr (by omega), p3]
      refine ev_gg (by first | omega | (constructor <;> omega)) ?_
      refine ev_ite (fun q2 => ?_) (fun q2 => ?_)
      · exact ev_ret ⟨by rw [if_neg (by omega)], rfl⟩
      · exact ev_ret ⟨by rw [if_pos (by omega)], rfl⟩
theorem q_isFigure (hd : 1 ≤ d) (h : RdS S t r) : Rd (fun n => f_X12_isFigure n d 0 S []) (if fgC (hdI r) then 1 else 0) S := by
  have hr := rd_hd h
  refine ev_up (fun n => e_X12_isFigure_0) ?_
  unfold b_X12_isFigure_0
  refine ev_gg (by first | omega | (constructor <;> omega)) ?_
  refine ev_gcr (q_sign (d := d - 1) h) ?_
  refine ev_gcr (q_in (d := d - 1) ⟨by constructor <;> omega, by decide, by decide⟩) ?_
  refine ev_gg (by split <;> decide) ?_
  exact ev_ret ⟨rfl, rfl⟩
theorem q_hex {x : Int} (hd : 1 ≤ d) (hx : -1 ≤ x ∧ x < 256) : Rd (fun n => f_X12_hex n d 0 S [x]) (hexV x) S := by
  unfold hexV
  refine ev_up (fun n => e_X12_hex_0) ?_
  unfold b_X12_hex_0
  refine ev_gg (by first | omega | (constructor <;> omega)) ?_
  refine ev_gcr (q_in (d := d - 1) ⟨by constructor <;> omega, by decide, by decide⟩) ?_
  by_cases c1 : 48 ≤ x ∧ x ≤ 57
  · rw [if_pos c1, if_pos c1]
    refine ev_gg (by decide) ?_
    refine ev_ite (fun z => by omega) (fun _ => ?_)
    refine ev_gv ?_
    exact ev_ret ⟨rfl, rfl⟩
  rw [if_neg c1, if_neg c1]
  refine ev_gg (by decide) ?_
  refine ev_ite (fun _ => ?_) (fun z => by omega)
  refine ev_gcr (q_in (d := d - 1) ⟨by constructor <;> omega, by decide, by decide⟩) ?_
  by_cases c2 : 97 ≤ x ∧ x ≤ 102
  · rw [if_pos c2, if_pos c2]
    refine ev_gg (by decide) ?_
    refine ev_ite (fun z => by omega) (fun _ => ?_)
    refine ev_gv ?_
    refine ev_gv ?_
    exact ev_ret ⟨by omega, rfl⟩
  rw [if_neg c2, if_neg c2]
  refine ev_gg (by decide) ?_
  refine ev_ite (fun _ => ?_) (fun z => by omega)
  refine ev_gcr (q_in (d := d - 1) ⟨by constructor <;> omega, by decide, by decide⟩) ?_
  by_cases c3 : 65 ≤ x ∧ x ≤ 70
  · rw [if_pos c3, if_pos c3]
    refine ev_gg (by decide) ?_
    refine ev_ite (fun z => by omega) (fun _ => ?_)
    refine ev_gv ?_
    refine ev_gv ?_
    exact ev_ret ⟨by omega, rfl⟩
  · rw [if_neg c3, if_neg c3]
    refine ev_gg (by decide) ?_
    refine ev_ite (fun _ => ?_) (fun z => by omega)
    exact ev_ret ⟨rfl, rfl⟩
theorem q_escaped {x : Int} (hx : -1 ≤ x ∧ x < 256) : Rd (fun n => f_X12_escaped n d 0 S [x]) (esC x) S := by
  unfold esC
  refine ev_up (fun n => e_X12_escaped_0) ?_
  unfold b_X12_escaped_0
  refine ev_gg (by first | omega | (constructor <;> omega)) ?_
  refine ev_ite (fun z => ?_) (fun z => ?_)
  · exact ev_ret ⟨by rw [if_pos (Or.inl z)], rfl⟩
  refine ev_ite (fun z1 => ?_) (fun z1 => ?_)
  · exact ev_ret ⟨by rw [if_pos (Or.inr (Or.inl z1))], rfl⟩
  refine ev_ite (fun z2 => ?_) (fun z2 => ?_)
  · exact ev_ret ⟨by rw [if_pos (Or.inr (Or.inr z2))], rfl⟩
  rw [if_neg (show ¬ (x = 34 ∨ x = 47 ∨ x = 92) by omega)]
  refine ev_ite (fun z3 => ?_) (fun z3 => ?_)
  · exact ev_ret ⟨by rw [if_pos z3], rfl⟩
  rw [if_neg z3]
  refine ev_ite (fun z4 => ?_) (fun z4 => ?_)
  · exact ev_ret ⟨by rw [if_pos z4], rfl⟩
  rw [if_neg z4]
  refine ev_ite (fun z5 => ?_) (fun z5 => ?_)
  · exact ev_ret ⟨by rw [if_pos z5], rfl⟩
  rw [if_neg z5]
  refine ev_ite (fun z6 => ?_) (fun z6 => ?_)
  · exact ev_ret ⟨by rw [if_pos z6], rfl⟩
  rw [if_neg z6]
  refine ev_ite (fun z7 => ?_) (fun z7 => ?_)
  · exact ev_ret ⟨by rw [if_pos z7], rfl⟩
  · rw [if_neg z7]
    exact ev_ret ⟨rfl, rfl⟩
theorem hexV_in (x : Int) : hexV x = -1 ∨ (0 ≤ hexV x ∧ hexV x ≤ 15) := by
  unfold hexV
  split
  · omega
  · split
    · omega
    · split
      · omega
      · exact Or.inl rfl
theorem esC_in (x : Int) : esC x = -1 ∨ (0 ≤ esC x ∧ esC x < 256) := by
  unfold esC
  split
  · omega
  · split
    · omega
    · split
      · omega
      · split
        · omega
        · split
          · omega
          · split
            · omega
            · exact Or.inl rfl
/-- what a text comes to -/
def RtQ (t : List Int) (m : Nat) (o : Rs (List Int × List Int)) (S : GS) (x : Int) (S1 : GS) : Prop := (match o with
  | .inl q => x = 0 ∧ RdS S1 t q ∧ ∃ a : List Int, a.length ≤ m ∧ WD S1 a
  | .inr z => x = 1 ∧ RdS S1 t z.2 ∧ z.1.length ≤ m ∧ WD S1 z.1) ∧ FC raP S S1
theorem text_15 {S0 : GS} {m : Nat} (hd : 2 ≤ d) (hm : m ≤ 800) : ∀ (f : Nat) (a r : List Int) (S : GS), r.length < f → a.length ≤ m → RdS S t r → WD S a → FC raP S0 S → Ev (fun n => f_X12_readsText n d 15 S [(m : Int)]) (fun x S1 => RtQ t m (rdT f m a r) S0 x S1) := by
  intro f
  induction f with
  | zero => intro a r S hl; omega
  | succ f ih =>
    intro a r S hl ha h w hf
    have hr := rd_hd h
    have step : ∀ (x : Int) (q : List Int) (S1 : GS), q.length < f → a.length < m → 0 ≤ x ∧ x < 256 → RdS S1 t q → WD S1 a → FC raP S0 S1 → Ev (fun n => f_X12_readsText n d 192 S1 [(m : Int), x]) (fun y S2 => RtQ t m (rdT f m (a ++ [x]) q) S0 y S2) := by
      intro x q S1 hq hal hx h1 w1 f1
      obtain ⟨a1, a2, a3, a4⟩ := w1
      refine ev_up (fun n => e_X12_readsText_192) ?_
      unfold b_X12_readsText_192
      refine ev_gv ?_
      rw [a1]
      refine ev_gg (by first | omega | (constructor <;> omega)) ?_
      refine ev_gv ?_
      rw [Int.toNat_natCast]
      refine ev_gv ?_
      rw [gI_c (show (500 : Nat) ≠ 507 by decide), a1]
      refine ev_gv ?_
      refine ev_gv ?_
      have f2 : FC (fun c j => (c = 500 ∧ j = 13) ∨ c = 507) S1 (gI (gI S1 507 a.length x) 500 13 ((a.length : Int) + 1)) := fc_tr (fc_gI (Or.inr rfl)) (fc_gI (Or.inl ⟨rfl, rfl⟩))
      refine ih (a ++ [x]) q _ hq (by rw [List.length_append, List.length_singleton]; omega) (rd_fr h1 f2 (by omega) (by omega) (fun j => by omega)) ⟨by rw [gI_a, List.length_append, List.length_singleton]; omega, by rw [List.length_append, List.length_singleton]; omega, fun i hi => ?_, fun y hy => ?_⟩ (fc_tr f1 (fc_mono f2 (fun c j z => by omega)))
      · rw [List.length_append, List.length_singleton] at hi
        rw [gI_c (by decide), getD_snoc hi]
        by_cases e : i = a.length
        · subst e
          rw [if_pos rfl, gI_a]
        · rw [if_neg e, gI_k (by omega)]
          exact a3 i (by omega)
      · rcases List.mem_append.mp hy with z | z
        · exact a4 y z
        · rw [List.mem_singleton] at z
          subst z
          exact hx
    have on : ∀ {S1 : GS} {q : List Int}, FC raP S0 S1 → FC raP S0 (gI S1 500 16 (S1.1 500 16 + 1)) := fun hh => fc_tr hh (fc_gI (Or.inl ⟨rfl, Or.inr rfl⟩))
    have wo : ∀ {S1 : GS}, WD S1 a → WD (gI S1 500 16 (S1.1 500 16 + 1)) a := fun hh => wd_fr hh (fc_gI (P := fun c j => c = 500 ∧ j = 16) ⟨rfl, rfl⟩) (by omega) (fun j => by omega)
    show Ev _ (fun x S1 => RtQ t m (if r = [] then .inl [] else if hdI r = 34 then .inr (a, r.tail) else if m ≤ a.length ∨ hdI r < 32 then .inl r else if hdI r = 92 then bd (rdE r.tail) (fun z => rdT f m (a ++ [z.1]) z.2) else rdT f m (a ++ [hdI r]) r.tail) S0 x S1)
    refine ev_up (fun n => e_X12_readsText_15) ?_
    unfold b_X12_readsText_15
    refine ev_gg (by first | omega | (constructor <;> omega)) ?_
    refine ev_gcr (q_sign (d := d - 1) h) ?_
    refine ev_gg (by first | omega | (constructor <;> omega)) ?_
    refine ev_ite (fun z => ?_) (fun z => ?_)
    · have rn := rd_ne (show 0 ≤ hdI r by omega)
      rw [if_neg rn, if_pos z]
      refine ev_gv ?_
      refine ev_gv ?_
      refine ev_gv ?_
      exact ev_ret ⟨⟨rfl, rd_on h rn, ha, wo w⟩, on (q := r) hf⟩
    refine ev_gcr (q_sign (d := d - 1) h) ?_
    refine ev_gg (by first | omega | (constructor <;> omega)) ?_
    refine ev_ite (fun z1 => ?_) (fun z1 => ?_)
    · by_cases rn : r = []
      · rw [if_pos rn]
        rw [rn] at h
        exact ev_ret ⟨⟨rfl, h, a, ha, w⟩, hf⟩
      · rw [if_neg rn, if_neg z, if_pos (Or.inr z1)]
        exact ev_ret ⟨⟨rfl, h, a, ha, w⟩, hf⟩
    have rn := rd_ne (show 0 ≤ hdI r by omega)
    have rl : r.tail.length + 1 = r.length := by
      cases r with
      | nil => exact absurd rfl rn
      | cons x r => rfl
    rw [if_neg rn, if_neg z]
    refine ev_gv ?_
    rw [w.1]
    refine ev_gg (by first | omega | (constructor <;> omega)) ?_
    refine ev_gg (by first | omega | (constructor <;> omega)) ?_
    refine ev_ite (fun z2 => ?_) (fun z2 => ?_)
    · have al : a.length < m := by omega
      rw [if_neg (by omega)]
      refine ev_gv ?_
      refine ev_gv ?_
      refine ev_gv ?_
      have h1 := rd_on h rn
      have w1 := wo w
      have f1 := on (q := r) hf
      generalize gI S 500 16 (S.1 500 16 + 1) = S1 at h1 w1 f1 ⊢
      refine ev_ite (fun z3 => ?_) (fun z3 => ?_)
      · rw [if_neg z3]
        exact step (hdI r) r.tail S1 (by omega) al (by omega) h1 w1 f1
      · rw [if_pos (by omega)]
        have hr1 := rd_hd h1
        have p175 : ∀ (x : Int) (q : List Int) (S2 : GS), (x = -1 ∨ (0 ≤ x ∧ x < 256 ∧ q ≠ [])) → q.length ≤ f → RdS S2 t q → WD S2 a → FC raP S0 S2 → Ev (fun n => f_X12_readsText n d 175 S2 [(m : Int), x]) (fun y S2 => RtQ t m (if x = -1 then .inl q else rdT f m (a ++ [x]) q.tail) S0 y S2) := by
          intro x q S2 hx hq h2 w2 f2
          refine ev_up (fun n => e_X12_readsText_175) ?_
          unfold b_X12_readsText_175
          refine ev_gg (by first | omega | (constructor <;> omega)) ?_
          refine ev_ite (fun y => ?_) (fun y => ?_)
          · have hx2 := hx.resolve_left y
            rw [if_neg y]
            refine ev_gv ?_
            refine ev_gv ?_
            refine ev_gv ?_
            refine step x q.tail _ ?_ al ⟨hx2.1, hx2.2.1⟩ (rd_on h2 hx2.2.2) (wo w2) (on (q := q) f2)
            cases q with
            | nil => exact absurd rfl hx2.2.2
            | cons y q => rw [List.length_cons] at hq; show q.length < f; omega
          · rw [if_pos (by omega)]
            exact ev_ret ⟨⟨rfl, h2, a, ha, w2⟩, f2⟩
        refine ev_gcr (q_sign (d := d - 1) h1) ?_
        refine ev_gcr (q_escaped (d := d - 1) hr1) ?_
        refine ev_gcr (q_sign (d := d - 1) h1) ?_
        refine ev_gg (by first | omega | (constructor <;> omega)) ?_
        unfold rdE
        refine ev_ite (fun z4 => ?_) (fun z4 => ?_)
        · rw [if_neg z4]
          have er := esC_in (hdI r.tail)
          have nz : esC (hdI r.tail) ≠ -1 → r.tail ≠ [] := fun y e => by rw [e] at y; exact y rfl
          have := p175 (esC (hdI r.tail)) r.tail S1 (by
            rcases er with e | e
            · exact Or.inl e
            · exact Or.inr ⟨e.1, e.2, nz (by omega)⟩) (by omega) h1 w1 f1
          by_cases e : esC (hdI r.tail) = -1
          · rw [if_pos e] at this ⊢
            exact this
          · rw [if_neg e] at this ⊢
            exact this
        · rw [if_pos (by omega)]
          have rn1 := rd_ne (show 0 ≤ hdI r.tail by omega)
          refine ev_gv ?_
          refine ev_gv ?_
          refine ev_gv ?_
          have h2 := rd_on h1 rn1
          have w2 := wo w1
          have f2 := on (q := r) f1
          generalize gI S1 500 16 (S1.1 500 16 + 1) = S2 at h2 w2 f2 ⊢
          have rl2 : r.tail.tail.length ≤ r.tail.length := by rw [List.length_tail]; omega
          have hr2 := rd_hd h2
          unfold rdH
          refine ev_up (fun n => e_X12_readsText_91) ?_
          unfold b_X12_readsText_91
          refine ev_gg (by decide) ?_
          refine ev_ite (fun z => by omega) (fun _ => ?_)
          refine ev_gg (by first | omega | (constructor <;> omega)) ?_
          refine ev_gcr (q_sign (d := d - 1) h2) ?_
          refine ev_gg (by first | omega | (constructor <;> omega)) ?_
          refine ev_ite (fun y1 => ?_) (fun y1 => ?_)
          · rw [if_neg (show ¬ hdI r.tail.tail ≠ 48 by omega)]
            refine ev_gv ?_
            refine ev_gv ?_
            refine ev_gv ?_
            refine ev_gv ?_
            have h3 := rd_on h2 (rd_ne (by omega))
            have w3 := wo w2
            have f3 := on (q := r) f2
            generalize gI S2 500 16 (S2.1 500 16 + 1) = S3 at h3 w3 f3 ⊢
            have hr3 := rd_hd h3
            refine ev_up (fun n => e_X12_readsText_91) ?_
            unfold b_X12_readsText_91
            refine ev_gg (by decide) ?_
            refine ev_ite (fun z => by omega) (fun _ => ?_)
            refine ev_gg (by first | omega | (constructor <;> omega)) ?_
            refine ev_gcr (q_sign (d := d - 1) h3) ?_
            refine ev_gg (by first | omega | (constructor <;> omega)) ?_
            refine ev_ite (fun y2 => ?_) (fun y2 => ?_)
            · rw [if_neg (show ¬ hdI r.tail.tail.tail ≠ 48 by omega)]
              refine ev_gv ?_
              refine ev_gv ?_
              refine ev_gv ?_
              refine ev_gv ?_
              have h4 := rd_on h3 (rd_ne (by omega))
              have w4 := wo w3
              have f4 := on (q := r) f3
              generalize gI S3 500 16 (S3.1 500 16 + 1) = S4 at h4 w4 f4 ⊢
              have hr4 := rd_hd h4
              have x4 := hexV_in (hdI r.tail.tail.tail.tail)
              refine ev_up (fun n => e_X12_readsText_91) ?_
              unfold b_X12_readsText_91
              refine ev_gg (by decide) ?_
              refine ev_ite (fun _ => ?_) (fun z => by omega)
              refine ev_gg (by first | omega | (constructor <;> omega)) ?_
              refine ev_gcr (q_sign (d := d - 1) h4) ?_
              refine ev_gcr (q_hex (d := d - 1) (by omega) hr4) ?_
              refine ev_gg (by first | omega | (constructor <;> omega)) ?_
              refine ev_ite (fun y3 => ?_) (fun y3 => ?_)
              · rw [if_neg y3]
                have n4 : r.tail.tail.tail.tail ≠ [] := fun e => by rw [e] at y3; exact y3 rfl
                refine ev_gv ?_
                refine ev_gv ?_
                refine ev_gv ?_
                have h5 := rd_on h4 n4
                have w5 := wo w4
                have f5 := on (q := r) f4
                generalize gI S4 500 16 (S4.1 500 16 + 1) = S5 at h5 w5 f5 ⊢
                have hr5 := rd_hd h5
                have x5 := hexV_in (hdI r.tail.tail.tail.tail.tail)
                refine ev_gcr (q_sign (d := d - 1) h5) ?_
                refine ev_gcr (q_hex (d := d - 1) (by omega) hr5) ?_
                refine ev_gg (by first | omega | (constructor <;> omega)) ?_
                refine ev_ite (fun y4 => ?_) (fun y4 => ?_)
                · rw [if_neg y4]
                  have n5 : r.tail.tail.tail.tail.tail ≠ [] := fun e => by rw [e] at y4; exact y4 rfl
                  refine ev_gv ?_
                  refine ev_gv ?_
                  have := p175 (16 * hexV (hdI r.tail.tail.tail.tail) + hexV (hdI r.tail.tail.tail.tail.tail)) r.tail.tail.tail.tail.tail S5 (Or.inr ⟨by omega, by omega, n5⟩) (by simp only [List.length_tail] at *; omega) h5 w5 f5
                  rw [if_neg (by omega)] at this
                  exact this
                · rw [if_pos (by omega)]
                  exact ev_ret ⟨⟨rfl, h5, a, ha, w5⟩, f5⟩
              · rw [if_pos (by omega)]
                exact ev_ret ⟨⟨rfl, h4, a, ha, w4⟩, f4⟩
            · rw [if_pos y2]
              exact ev_ret ⟨⟨rfl, h3, a, ha, w3⟩, f3⟩
          · rw [if_pos y1]
            exact ev_ret ⟨⟨rfl, h2, a, ha, w2⟩, f2⟩
    · rw [if_pos (Or.inl (by omega))]
      exact ev_ret ⟨⟨rfl, h, a, ha, w⟩, hf⟩
theorem q_readsText {m : Nat} (hd : 2 ≤ d) (hm : m ≤ 800) (h : RdS S t r) (hr : r ≠ []) : Ev (fun n => f_X12_readsText n d 0 S [(m : Int)]) (fun x S1 => RtQ t m (rdT 40000 m [] r.tail) S x S1) := by
  have l := rd_len h
  have f1 : FC (fun c j => c = 500 ∧ j = 13) S (gI S 500 13 0) := fc_gI ⟨rfl, rfl⟩
  have h1 := rd_fr h f1 (by omega) (by omega) (fun j => by omega)
  have w1 : WD (gI S 500 13 0) [] := ⟨gI_a, by decide, fun i hi => absurd hi (Nat.not_lt_zero i), fun x hx => by cases hx⟩
  refine ev_up (fun n => e_X12_readsText_0) ?_
  unfold b_X12_readsText_0
  refine ev_gv ?_
  refine ev_gv ?_
  refine ev_gv ?_
  refine ev_gv ?_
  refine text_15 hd hm 40000 [] r.tail _ (by rw [List.length_tail]; omega) (Nat.zero_le _) (rd_on h1 hr) (wd_fr w1 (fc_gI (P := fun c j => c = 500 ∧ j = 16) ⟨rfl, rfl⟩) (by omega) (fun j => by omega)) (fc_tr (fc_mono f1 (fun c j z => by omega)) (fc_gI (Or.inl ⟨rfl, Or.inr rfl⟩)))
end RDR
