/-! THE REFERENCE reads: groups being made -/
def grW (A : List ND) (x : ND) (E : List (List ND)) : List ND := A ++ wZ x E.length :: (E.map mny).flatten
theorem mny_fl {E : List (List ND)} : (E.map mny).flatten.length = E.flatten.length := by
  induction E with
  | nil => rfl
  | cons t E ih =>
    rw [List.map_cons, List.flatten_cons, List.flatten_cons, List.length_append, List.length_append, mny_len, ih]
theorem gr_len {A : List ND} {x : ND} {E : List (List ND)} : (grW A x E).length = A.length + 1 + E.flatten.length := by
  unfold grW
  rw [List.length_append, List.length_cons, mny_fl]
  omega
theorem gr_top {A : List ND} {x : ND} {E : List (List ND)} : (grW A x E).getD A.length nd0 = wZ x E.length := get_mid
theorem tp_snoc {St : List Nat} {g : Nat} : tpN (St ++ [g]) = g ∧ tpS (St ++ [g]) = (g : Int) := by
  have e : tpN (St ++ [g]) = g := by
    unfold tpN
    rw [List.length_append, List.length_singleton]
    simp
  refine ⟨e, ?_⟩
  unfold tpS
  rw [if_neg (by simp), e]
theorem up_len {W : List ND} {St : List Nat} : (upT W St).length = W.length := by
  unfold upT
  split
  · rfl
  · rw [List.length_set]
theorem gr_up {A : List ND} {x : ND} {E : List (List ND)} {St : List Nat} : upT (grW A x E) (St ++ [A.length]) = A ++ wZ x (E.length + 1) :: (E.map mny).flatten := by
  unfold upT
  rw [if_neg (by simp), tp_snoc.1, gr_top]
  exact set_mid
theorem gr_snoc {A : List ND} {x : ND} {E : List (List ND)} {T : List ND} {St : List Nat} : upT (grW A x E) (St ++ [A.length]) ++ mny T = grW A x (E ++ [T]) := by
  rw [gr_up]
  unfold grW
  rw [List.map_append, List.flatten_append, List.length_append]
  simp
/-- parents, of what came -/
def PrQ (Pr Pr1 : Nat → Int) (g b : Nat) (p : Int) : Prop := (∀ j, j < g → Pr1 j = Pr j) ∧ Pr1 g = p ∧ ∀ j, g < j → j < b → (g : Int) ≤ Pr1 j
/-- KEYS that are there already -/
def KeI (W : List ND) (Pr : Nat → Int) (g : Nat) (E : List (List ND)) : Prop := ∀ key, (∃ u ∈ E, rq u = key) ↔ ∃ j, g < j ∧ j < W.length ∧ Pr j = (g : Int) ∧ (W.getD j nd0).2.2.2.2 = key
theorem gr_get {A : List ND} {x : ND} {E : List (List ND)} {T : List ND} {j : Nat} (h1 : A.length < j) (h2 : j < (grW A x E).length) : (grW A x (E ++ [T])).getD j nd0 = (grW A x E).getD j nd0 := by
  rw [← gr_snoc (St := [])]
  have ul : (upT (grW A x E) ([] ++ [A.length])).length = (grW A x E).length := up_len
  rw [List.getD_eq_getElem?_getD, List.getElem?_append_left (by omega), ← List.getD_eq_getElem?_getD]
  unfold upT
  rw [if_neg (by simp), tp_snoc.1, getD_set (by omega), if_neg (by omega)]
theorem grw_new {A : List ND} {x : ND} {E : List (List ND)} {T : List ND} (hT : 1 ≤ T.length) : ((grW A x (E ++ [T])).getD (grW A x E).length nd0).2.2.2.2 = rq T := by
  rw [← gr_snoc (St := [])]
  have ul : (upT (grW A x E) ([] ++ [A.length])).length = (grW A x E).length := up_len
  rw [← ul, List.getD_eq_getElem?_getD, List.getElem?_append_right (by omega), Nat.sub_self, ← List.getD_eq_getElem?_getD, mny_at (by omega)]
  rfl
theorem ke_snoc {A : List ND} {x : ND} {E : List (List ND)} {T : List ND} {Pr1 Pr2 : Nat → Int} {b : Nat} (hT : 1 ≤ T.length) (hb : b = (grW A x E).length + T.length) (h : KeI (grW A x E) Pr1 A.length E) (hP : PrQ Pr1 Pr2 (grW A x E).length b (A.length : Int)) : KeI (grW A x (E ++ [T])) Pr2 A.length (E ++ [T]) := by
  have l1 := gr_len (A := A) (x := x) (E := E)
  have l2 : (grW A x (E ++ [T])).length = b := by
    rw [gr_len, hb, l1, List.flatten_append, List.length_append]
    simp
    omega
  intro key
  constructor
  · rintro ⟨u, hu, e⟩
    rcases List.mem_append.mp hu with z | z
    · obtain ⟨j, j1, j2, j3, j4⟩ := (h key).mp ⟨u, z, e⟩
      exact ⟨j, j1, by omega, by rw [hP.1 j j2]; exact j3, by rw [gr_get j1 j2]; exact j4⟩
    · rw [List.mem_singleton] at z
      subst z
      exact ⟨(grW A x E).length, by omega, by omega, hP.2.1, by rw [grw_new hT]; exact e⟩
  · rintro ⟨j, j1, j2, j3, j4⟩
    by_cases c : j < (grW A x E).length
    · rw [gr_get j1 c] at j4
      rw [hP.1 j c] at j3
      obtain ⟨u, hu, e⟩ := (h key).mpr ⟨j, j1, c, j3, j4⟩
      exact ⟨u, List.mem_append.mpr (Or.inl hu), e⟩
    · by_cases c2 : j = (grW A x E).length
      · subst c2
        rw [grw_new hT] at j4
        exact ⟨T, List.mem_append.mpr (Or.inr (List.mem_singleton.mpr rfl)), j4⟩
      · have := hP.2.2 j (by omega) (by omega)
        omega
theorem pr_snoc {Pr Pr1 Pr2 : Nat → Int} {g b b2 : Nat} {p : Int} (hg : g < b) (h1 : PrQ Pr Pr1 g b p) (h2 : PrQ Pr1 Pr2 b b2 (g : Int)) : PrQ Pr Pr2 g b2 p := by
  refine ⟨fun j hj => by rw [h2.1 j (by omega), h1.1 j hj], by rw [h2.1 g hg, h1.2.1], fun j j1 j2 => ?_⟩
  by_cases c : j < b
  · rw [h2.1 j c]; exact h1.2.2 j j1 c
  · by_cases c2 : j = b
    · subst c2; rw [h2.2.1]; exact Int.le_refl _
    · have := h2.2.2 j (by omega) j2
      omega
/-- the reference, reading -/
def RI (S : GS) (t r : List Int) (W : List ND) (Pr : Nat → Int) (St : List Nat) : Prop := MD S 40 (some W) ∧ PrS S Pr W.length ∧ StS S St W.length ∧ RdS S t r ∧ inr (S.1 500 22)
abbrev p16 : Nat → Nat → Prop := fun c j => c = 500 ∧ j = 16
section RGR
variable {S S1 : GS} {d f : Nat} {how : Int} {W : List ND} {Pr : Nat → Int} {St : List Nat} {key t r r1 : List Int} {Q : Int → GS → Prop}
theorem ri_16 (h : RI S t r W Pr St) (hf : FC p16 S S1) (h1 : RdS S1 t r1) : RI S1 t r1 W Pr St := ⟨mdr_fr h.1 hf (fun j _ _ => by omega) (by omega) (by omega), fun j hj => by rw [fc_i hf (by omega)]; exact h.2.1 j hj, ⟨by rw [fc_i hf (by omega)]; exact h.2.2.1.1, h.2.2.1.2.1, fun i hi => by rw [fc_i hf (by omega)]; exact h.2.2.1.2.2 i hi⟩, h1, by rw [fc_i hf (by omega)]; exact h.2.2.2.2⟩
/-- the sign that closes the last open group stands here -/
def enS (W : List ND) (St : List Nat) : Int := if (W.getD (tpN St) nd0).1 = 4 then 93 else 125
def edF (W : List ND) (St : List Nat) (c : Int) : Int := if St ≠ [] ∧ c = enS W St then 1 else 0
theorem st_tp (h : RI S t r W Pr St) (e : St ≠ []) : 1 ≤ St.length ∧ S.1 511 (St.length - 1) = (tpN St : Int) ∧ tpN St < W.length ∧ S.1 501 (6161 * 40 + 61 * tpN St) = (W.getD (tpN St) nd0).1 ∧ 0 ≤ (W.getD (tpN St) nd0).1 ∧ (W.getD (tpN St) nd0).1 ≤ 5 := by
  have ln := List.length_pos_iff.mpr e
  have h2 := h.2.2.1.2.2 (St.length - 1) (by omega)
  have cr := (h.1.2.2.2.1 (tpN St) h2.2).1.1
  have nw := (h.1.2.2.2.2 _ (nd_mem h2.2)).1
  exact ⟨by omega, h2.1, h2.2, cr, nw.1, nw.2⟩
theorem rs_28f {a2 a3 : Int} (hd : 4 ≤ d) (h : RI S t r W Pr St) (nb : ¬ (hdI r = 32 ∨ hdI r = 10)) (nx : Ev (fun n => f_X12_reads n d 99 S [how, a2, a3, 1, hdI r, edF W St (hdI r)]) Q) : Ev (fun n => f_X12_reads n d 28 S [how, a2, a3, 1]) Q := by
  have hR := h.2.2.2.1
  have hr := rd_hd hR
  have s20 := h.2.2.1.1
  have sl := h.2.2.1.2.1
  have w100 := h.1.2.2.1
  unfold edF at nx
  refine ev_up (fun n => e_X12_reads_28) ?_
  unfold b_X12_reads_28
  refine ev_gg (by first | omega | (constructor <;> omega)) ?_
  refine ev_gcr (q_isBlank (d := d - 1) hR) ?_
  rw [if_neg nb]
  refine ev_gg (by decide) ?_
  refine ev_ite (fun _ => ?_) (fun z => by omega)
  refine ev_gcr (q_sign (d := d - 1) hR) ?_
  refine ev_gv ?_
  rw [s20]
  refine ev_gg (by first | omega | (constructor <;> omega)) ?_
  refine ev_ite (fun y => ?_) (fun y => ?_)
  · have e : St = [] := List.length_eq_zero_iff.mp (by omega)
    rw [if_neg (fun z => z.1 e)] at nx
    exact nx
  · have e : St ≠ [] := fun e => y (by rw [e]; decide)
    obtain ⟨l1, t1, t2, t3, t4, t5⟩ := st_tp h e
    unfold enS at nx
    refine ev_gv ?_
    refine ev_gv ?_
    refine ev_gg (by first | omega | (constructor <;> omega)) ?_
    refine ev_gv ?_
    rw [show ((St.length : Int) - 1).toNat = St.length - 1 by omega, t1]
    refine ev_gcr (q_kind (d := d - 1) (k := 40) (i := (tpN St : Int)) (6161 * 40 + 61 * tpN St) (by omega) (by omega) (by omega)) ?_
    rw [t3]
    refine ev_gg (by first | omega | (constructor <;> omega)) ?_
    refine ev_ite (fun y2 => ?_) (fun y2 => ?_)
    · rw [if_neg y2] at nx
      refine ev_gg (by first | omega | (constructor <;> omega)) ?_
      refine ev_ite (fun y3 => ?_) (fun y3 => ?_)
      · rw [if_neg (fun z => y3 z.2)] at nx
        exact nx
      · rw [if_pos ⟨e, by omega⟩] at nx
        exact nx
    · have y2' : (W.getD (tpN St) nd0).1 = 4 := by omega
      rw [if_pos y2'] at nx
      refine ev_gg (by first | omega | (constructor <;> omega)) ?_
      refine ev_ite (fun y3 => ?_) (fun y3 => ?_)
      · rw [if_neg (fun z => y3 z.2)] at nx
        exact nx
      · rw [if_pos ⟨e, by omega⟩] at nx
        exact nx
/-- blanks are left out -/
theorem rs_28 {a2 a3 : Int} (hd : 4 ≤ d) {R : List Int} : ∀ (r : List Int) (S : GS), skB r = R → RI S t r W Pr St → (∀ S1, RI S1 t R W Pr St → FC p16 S S1 → Ev (fun n => f_X12_reads n d 99 S1 [how, a2, a3, 1, hdI R, edF W St (hdI R)]) Q) → Ev (fun n => f_X12_reads n d 28 S [how, a2, a3, 1]) Q := by
  intro r
  induction r with
  | nil =>
    intro S e h nx
    subst e
    exact rs_28f hd h (by decide) (nx S h fc_rf)
  | cons x q ih =>
    intro S e h nx
    have es : skB (x :: q) = if x = 32 ∨ x = 10 then skB q else x :: q := rfl
    rw [es] at e
    have hR := h.2.2.2.1
    have hr := rd_hd hR
    by_cases c : x = 32 ∨ x = 10
    · rw [if_pos c] at e
      refine ev_up (fun n => e_X12_reads_28) ?_
      unfold b_X12_reads_28
      refine ev_gg (by first | omega | (constructor <;> omega)) ?_
      refine ev_gcr (q_isBlank (d := d - 1) hR) ?_
      rw [if_pos (show hdI (x :: q) = 32 ∨ hdI (x :: q) = 10 from c)]
      refine ev_gg (by decide) ?_
      refine ev_ite (fun z => by omega) (fun _ => ?_)
      refine ev_gv ?_
      refine ev_gv ?_
      refine ev_gv ?_
      have f1 : FC p16 S (gI S 500 16 (S.1 500 16 + 1)) := fc_gI ⟨rfl, rfl⟩
      exact ih _ e (ri_16 h f1 (rd_on hR (by simp))) (fun S1 h1 f2 => nx S1 h1 (fc_tr f1 f2))
    · rw [if_neg c] at e
      subst e
      exact rs_28f hd h c (nx S h fc_rf)
/-- behind a VALUE, or at the beginning of a group: it ends, or another sign stands here -/
theorem rs_23 {b : Nat} {st : Int} (hd : 4 ≤ d) (h : RI S t r W Pr St) (hst : st = 0 ∨ st = 1 ∨ st = 2 ∨ st = 3 ∨ st = 4) (nx : ∀ S1, RI S1 t (skB r) W Pr St → FC p16 S S1 → ¬ ((st = 1 ∨ st = 2 ∨ st = 4) ∧ St ≠ [] ∧ hdI (skB r) = enS W St) → Ev (fun n => f_X12_reads n d 146 S1 [how, (b : Int), st, 1, hdI (skB r)]) Q) (cl : (st = 1 ∨ st = 2 ∨ st = 4) → St ≠ [] → hdI (skB r) = enS W St → ∀ S1, RI S1 t (skB r).tail W Pr St.dropLast → FC (fun c j => c = 500 ∧ (j = 16 ∨ j = 20)) S S1 → Ev (fun n => f_X12_reads n d 23 S1 [how, (b : Int), 4, 1]) Q) : Ev (fun n => f_X12_reads n d 23 S [how, (b : Int), st, 1]) Q := by
  refine ev_up (fun n => e_X12_reads_23) ?_
  unfold b_X12_reads_23
  refine ev_gg (by decide) ?_
  refine ev_ite (fun z => by omega) (fun _ => ?_)
  refine rs_28 hd r S rfl h (fun S1 h1 f1 => ?_)
  have hR := h1.2.2.2.1
  have N := nx S1 h1 f1
  have p116 : (st = 1 ∨ st = 2 ∨ st = 4) → Ev (fun n => f_X12_reads n d 116 S1 [how, (b : Int), st, 1, hdI (skB r), edF W St (hdI (skB r))]) Q := by
    intro s1
    have eb : edF W St (hdI (skB r)) = 0 ∨ edF W St (hdI (skB r)) = 1 := by
      unfold edF
      split
      · exact Or.inr rfl
      · exact Or.inl rfl
    refine ev_up (fun n => e_X12_reads_116) ?_
    unfold b_X12_reads_116
    refine ev_gg (by first | omega | (constructor <;> omega)) ?_
    refine ev_ite (fun y => ?_) (fun y => ?_)
    · refine N (fun z => ?_)
      unfold edF at y
      rw [if_pos z.2] at y
      exact absurd y (by decide)
    · have e : St ≠ [] ∧ hdI (skB r) = enS W St := by
        unfold edF at y
        by_cases c : St ≠ [] ∧ hdI (skB r) = enS W St
        · exact c
        · rw [if_neg c] at y
          exact absurd rfl y
      obtain ⟨l1, t1, t2, t3, t4, t5⟩ := st_tp h1 e.1
      have rn : skB r ≠ [] := by
        refine rd_ne ?_
        rw [e.2]
        unfold enS
        split <;> decide
      refine ev_gv ?_
      rw [h1.2.2.1.1]
      refine ev_gv ?_
      refine ev_gv ?_
      refine ev_gv ?_
      rw [gI_k (by decide)]
      refine ev_gv ?_
      refine ev_gv ?_
      have f2 : FC (fun c j => c = 500 ∧ (j = 16 ∨ j = 20)) S1 (gI S1 500 20 ((St.length : Int) - 1)) := fc_gI ⟨rfl, Or.inr rfl⟩
      have f3 : FC (fun c j => c = 500 ∧ (j = 16 ∨ j = 20)) S1 (gI (gI S1 500 20 ((St.length : Int) - 1)) 500 16 (S1.1 500 16 + 1)) := fc_tr f2 (fc_gI ⟨rfl, Or.inl rfl⟩)
      have r2 : RdS (gI S1 500 20 ((St.length : Int) - 1)) t (skB r) := rd_fr hR (fc_gI (P := fun c j => c = 500 ∧ j = 20) ⟨rfl, rfl⟩) (by omega) (by omega) (fun j => by omega)
      have r3 := rd_on r2 rn
      rw [gI_k (by decide)] at r3
      have dl : St.dropLast.length = St.length - 1 := List.length_dropLast
      have sl := h1.2.2.1.2.1
      refine cl s1 e.1 e.2 _ ⟨mdr_fr h1.1 f3 (fun j _ _ => by omega) (by omega) (by omega), fun j hj => by rw [fc_i f3 (by omega)]; exact h1.2.1 j hj, ⟨by rw [gI_k (by decide), gI_a, dl]; omega, by omega, fun i hi => ?_⟩, r3, by rw [fc_i f3 (by omega)]; exact h1.2.2.2.2⟩ (fc_tr (fc_mono f1 (fun c j z => by omega)) f3)
      have eg : St.dropLast.getD i 0 = St.getD i 0 := by
        rw [List.getD_eq_getElem?_getD, List.getD_eq_getElem?_getD, List.getElem?_dropLast]
        rw [if_pos (by omega)]
      rw [eg, fc_i f3 (by omega)]
      exact h1.2.2.1.2.2 i (by omega)
  refine ev_up (fun n => e_X12_reads_99) ?_
  unfold b_X12_reads_99
  refine ev_gg (by first | omega | (constructor <;> omega)) ?_
  refine ev_ite (fun y => ?_) (fun y => ?_)
  · exact p116 (by omega)
  refine ev_ite (fun y2 => ?_) (fun y2 => ?_)
  · exact p116 (by omega)
  refine ev_ite (fun y3 => ?_) (fun y3 => ?_)
  · exact N (fun z => by omega)
  · exact p116 (by omega)
end RGR
