/-! the Editor of the class: PUT -/
theorem spl_key {V t : List ND} {o a : Nat} {key : List Int} (h1 : o < a) (h2 : a ≤ V.length) (ht : 1 ≤ t.length) : (spl V o a 0 t).set a (wQ ((spl V o a 0 t).getD a nd0) key) = spl V o a 0 (kyT t key) := by
  have lk := ky_len (q := key) ht
  unfold spl adjS
  rw [lk]
  have lt : (V.take a).length = a := by rw [List.length_take]; omega
  cases t with
  | nil => simp at ht
  | cons x r =>
    have ek : kyT (x :: r) key = wQ x key :: r := rfl
    rw [ek]
    have eL : ∀ y : ND, V.take a ++ (y :: r) ++ V.drop (a + 0) = V.take a ++ y :: (r ++ V.drop (a + 0)) := fun y => by simp
    rw [eL, eL]
    generalize hD : r ++ V.drop (a + 0) = D
    generalize hX : V.take a = X at *
    generalize he : (((x :: r).length : Int) - ((0 : Nat) : Int)) = e
    have gx : ∀ y : ND, (X ++ y :: D).getD a nd0 = y := fun y => get_endT lt.symm
    have la : a < (X ++ x :: D).length := by simp; omega
    have g0 : (adjP (X ++ x :: D) o e (o + 1)).getD a nd0 = x := by
      rw [adjP_at la, if_neg (by omega), gx]
    rw [g0]
    refine ext_getD (by simp [adjP_len]) (fun q hq => ?_)
    rw [List.length_set, adjP_len] at hq
    have hq' : q < (X ++ wQ x key :: D).length := by simpa using hq
    rw [getD_set (by rw [adjP_len]; exact la), adjP_at hq', adjP_at hq]
    have gq : ∀ y : ND, q ≠ a → (X ++ y :: D).getD q nd0 = (X ++ x :: D).getD q nd0 := fun y hqa => by
      rw [← set_endT (x := x) (y := y) (A := D) lt.symm, getD_set la, if_neg hqa]
    by_cases c : q = a
    · subst c
      rw [if_pos rfl, if_neg (by omega), gx]
    · rw [if_neg c]
      have nzq : nz (X ++ wQ x key :: D) q = nz (X ++ x :: D) q := by unfold nz; rw [gq _ c]
      rw [nzq, gq (wQ x key) c]
theorem place_at {V : List ND} (h : TR V ∧ PZL V) {o p : Nat} (ho : o < V.length) (hp : p ≤ (kids V o).length) : (if (p : Int) < ((kids V o).length : Int) then (atK (kids V o) (p : Int)).toNat else o + nz V o) = o + 1 + ((kd (sg V o)).take p).flatten.length := by
  have hz := pz_l h.2
  have wo := h.1.1.1 o ho
  have zo := hz o
  rw [kd_sg h.2 h.1.1 ho]
  by_cases c : (p : Int) < ((kids V o).length : Int)
  · rw [if_pos c]
    obtain ⟨K1, k, K2, q1, q2, q3⟩ := atK_at (kids V o) (p : Int) (by omega) c
    rw [q3, Int.toNat_natCast]
    have sp := ks_split h.1.1 hz wo K1 (o + 1) k K2 q1
    rw [q1, List.map_append, List.take_append_of_le_length (by rw [List.length_map]; omega), List.take_of_length_le (by rw [List.length_map]; omega)]
    omega
  · rw [if_neg c, List.take_of_length_le (by rw [List.length_map]; omega), ← kd_sg h.2 h.1.1 ho]
    have hs := tr_sg h.1.1 h.2 ho
    have e := congrArg List.length (kd_flat hs.2 hs.1.2.1)
    rw [sg_len h.1.1 ho, List.length_cons] at e
    omega
/-- what can be a DOCUMENT -/
abbrev pOK (T : List ND) : Prop := T.length ≤ 100 ∧ dpS 13 T ≤ 12
theorem dOK_p {T : List ND} (h : TR T ∧ PZL T) (hl : T.length ≤ 100) : dOK (T, false) ↔ pOK T := by
  have e := dpF_S h.2 h.1.1 13 0 h.1.2.1
  rw [sg_self h.1] at e
  unfold dOK pOK
  rw [show dpF 13 (T, false).1 0 = dpS 13 T from e]
  exact ⟨fun z => ⟨hl, z.2.2.2⟩, fun z => ⟨rfl, h.1.2.1, h.1.2.2, z.2⟩⟩
def kyA (l : List Int) (V : List ND) (o : Nat) : List Int := if nk V o = 5 then wdA l (nW l - 1) else []
/-- what PUTTING a piece comes to -/
def putT (l : List Int) (V : List ND) (z : Bool × Nat × Nat × Nat) (t : List ND) : List ND := if z.1 then updF (fun c => kyT t (rq c)) V.length V z.2.2.1 else updF (insT z.2.2.2 (kyT t (kyA l V z.2.1))) V.length V z.2.1
def apT (l : List Int) (V : List ND) (z : Bool × Nat × Nat × Nat) : List Int := if nk V z.2.1 = 4 then l.take (stA l ((nW l : Int) - 1)).toNat ++ wnum z.2.2.2 else l
def putR (tn : Bool) (bk : Option (List (List ND))) (l : List Int) (V : List ND) (z : Bool × Nat × Nat × Nat) : Option (List (List ND)) := if tn then (if z.1 then recS bk 21 l [sg V z.2.2.1] else recS bk 25 (apT l V z) []) else bk
abbrev edP : Nat → Prop := fun k => trM 360 k ∨ trM 376 k ∨ trM 384 k ∨ k = 438 ∨ k = 439 ∨ (450 ≤ k ∧ k < 456) ∨ k = 482
def EdS (tn : Bool) (V : List ND) (bk : Option (List (List ND))) (S0 S : GS) : Prop := TO 360 (V, false) S ∧ S.2.1 482 7 = tn ∧ BkR bk S ∧ Fr edP S0 S ∧ Good S
/-- where a VALUE comes to lie at a place -/
def o1 (V : List ND) (o p : Nat) : Nat := o + 1 + ((kd (sg V o)).take p).flatten.length
theorem fdK_none {V : List ND} {key : List Int} : ∀ {L : List Nat}, fdK V key L = -1 → ∀ k ∈ L, nq V k ≠ key
  | [], _, k, hk => by cases hk
  | j :: L, h, k, hk => by
    unfold fdK at h
    by_cases c : nq V j = key
    · rw [if_pos c] at h; omega
    · rw [if_neg c] at h
      rcases List.mem_cons.mp hk with z | z
      · rw [z]; exact c
      · exact fdK_none h k z
/-- what aiming tells holds together -/
theorem aimS_ok {l : List Int} {V : List ND} (h : TR V ∧ PZL V) {z : Bool × Nat × Nat × Nat} (hz : aimS l V = some z) : z.2.1 < V.length ∧ (z.1 = true → z.2.2.1 < V.length) ∧ (z.1 = false → 4 ≤ nk V z.2.1 ∧ z.2.2.2 ≤ (kids V z.2.1).length ∧ z.2.2.1 = o1 V z.2.1 z.2.2.2 ∧ z.2.2.1 ≤ V.length ∧ z.2.1 < z.2.2.1 ∧ 1 ≤ nW l ∧ (nk V z.2.1 = 5 → (wdA l (nW l - 1)).length ≤ 12 ∧ ∀ k ∈ kids V z.2.1, nq V k ≠ wdA l (nW l - 1))) := by
  have pz := pz_l h.2
  have l1 := h.1.2.1
  have no : nOK V (ldT l V (nW l - 1)) := ldF_r h.1.1 pz _ _ _ (Or.inr (by omega))
  unfold aimS at hz
  by_cases c0 : nW l = 0
  · rw [if_pos c0] at hz
    cases hz
    exact ⟨l1, fun _ => l1, fun q => absurd q (by show ¬ true = false; decide)⟩
  rw [if_neg c0] at hz
  generalize hO : ldT l V (nW l - 1) = o at *
  by_cases c5 : kdI V o = 5
  · have o0 : 0 ≤ o ∧ o < (V.length : Int) := by
      unfold kdI at c5
      by_cases q : 0 ≤ o ∧ o < (V.length : Int)
      · exact q
      · rw [if_neg q] at c5; omega
    have ek : kdI V o = nk V o.toNat := if_pos o0
    have wo := h.1.1.1 o.toNat (by omega)
    have zo := pz o.toNat
    rw [if_pos c5] at hz
    have vr := vLk_r h.1.1 pz o (wdA l (nW l - 1))
    by_cases cv : vLk V o (wdA l (nW l - 1)) = -1
    · rw [if_pos cv] at hz
      by_cases c12 : (wdA l (nW l - 1)).length ≤ 12
      · rw [if_pos c12] at hz
        cases hz
        refine ⟨by show o.toNat < _; omega, fun q => absurd q (by show ¬ false = true; decide), fun _ => ⟨by show 4 ≤ nk V o.toNat; omega, Nat.le_refl _, ?_, wo, by show o.toNat < o.toNat + nz V o.toNat; omega, by omega, fun _ => ⟨c12, fun k hk => ?_⟩⟩⟩
        · have := place_at h (o := o.toNat) (p := (kids V o.toNat).length) (by omega) (Nat.le_refl _)
          rw [if_neg (by omega)] at this
          exact this
        · intro e
          unfold vLk at cv
          rw [if_pos o0] at cv
          unfold kidsM at cv
          rw [if_pos (by omega)] at cv
          exact fdK_none cv k hk e
      · rw [if_neg c12] at hz; cases hz
    · rw [if_neg cv] at hz
      cases hz
      refine ⟨by show o.toNat < _; omega, fun _ => ?_, fun q => absurd q (by show ¬ true = false; decide)⟩
      show (vLk V o (wdA l (nW l - 1))).toNat < V.length
      rcases vr with z | z
      · exact absurd z cv
      · omega
  rw [if_neg c5] at hz
  by_cases c4 : kdI V o = 4
  · have o0 : 0 ≤ o ∧ o < (V.length : Int) := by
      unfold kdI at c4
      by_cases q : 0 ≤ o ∧ o < (V.length : Int)
      · exact q
      · rw [if_neg q] at c4; omega
    have ek : kdI V o = nk V o.toNat := if_pos o0
    have wo := h.1.1.1 o.toNat (by omega)
    have zo := pz o.toNat
    rw [if_pos c4] at hz
    by_cases cp : 0 ≤ pRow l V o.toNat ∧ pRow l V o.toNat ≤ ((kids V o.toNat).length : Int)
    · rw [if_pos cp] at hz
      cases hz
      have pa := place_at h (o := o.toNat) (p := (pRow l V o.toNat).toNat) (by omega) (by omega)
      rw [show (((pRow l V o.toNat).toNat : Nat) : Int) = pRow l V o.toNat by omega] at pa
      refine ⟨by show o.toNat < _; omega, fun q => absurd q (by show ¬ false = true; decide), fun _ => ⟨by show 4 ≤ nk V o.toNat; omega, by show (pRow l V o.toNat).toNat ≤ (kids V o.toNat).length; omega, pa, ?_, ?_, by omega, fun q => ?_⟩⟩
      · show (if pRow l V o.toNat < ((kids V o.toNat).length : Int) then (atK (kids V o.toNat) (pRow l V o.toNat)).toNat else o.toNat + nz V o.toNat) ≤ V.length
        split
        · rename_i cl
          obtain ⟨K1, k, K2, q1, q2, q3⟩ := atK_at (kids V o.toNat) _ cp.1 cl
          rw [q3]
          have := kids_in h.1.1 pz (g := o.toNat) (k := k) (by omega) (by rw [q1]; exact List.mem_append_right _ List.mem_cons_self)
          omega
        · exact wo
      · show o.toNat < (if pRow l V o.toNat < ((kids V o.toNat).length : Int) then (atK (kids V o.toNat) (pRow l V o.toNat)).toNat else o.toNat + nz V o.toNat)
        rw [pa]
        omega
      · have : nk V o.toNat = 5 := q
        omega
    · rw [if_neg cp] at hz; cases hz
  · rw [if_neg c4] at hz; cases hz
theorem upd_same {h1 h2 : List ND → List ND} : ∀ (f : Nat) (T : List ND) (o : Nat), T.length ≤ f → TR T ∧ PZL T → o < T.length → h1 (sg T o) = h2 (sg T o) → updF h1 f T o = updF h2 f T o
  | 0, T, o, hl, ht, ho, _ => by have := ht.1.2.1; omega
  | f + 1, T, 0, hl, ht, ho, e1 => by
    rw [sg_self ht.1] at e1
    rw [updF_0, updF_0, e1]
  | f + 1, T, i + 1, hl, ht, ho, h1' => by
    obtain ⟨A, c, B, e1, e2, e3, e4, e5, e6, e7⟩ := upd_step (h := h1) (f := f) ht ho
    obtain ⟨A', c', B', e1', e2', e3', e4', e5', e6', e7'⟩ := upd_step (h := h2) (f := f) ht ho
    have hk := kd_tr ht.1 ht.2
    have eq : A' = A ∧ c' = c ∧ B' = B := by
      have e : A ++ c :: B = A' ++ c' :: B' := by rw [← e1, ← e1']
      exact split_eq (fun t ht' => (hk t (by rw [e1]; exact ht')).1.2.1) e (by omega) (by omega) (by omega) (by omega)
    obtain ⟨rfl, rfl, rfl⟩ := eq
    have hc := hk c' (by rw [e1]; exact List.mem_append_right _ List.mem_cons_self)
    have hTl : T.length = A'.flatten.length + c'.length + B'.flatten.length + 1 := by
      have := congrArg List.length e6
      rw [gp_flat3] at this
      simp only [List.length_cons, List.length_append] at this
      omega
    rw [e4] at h1'
    rw [e5, e5', upd_same f c' (i - A'.flatten.length) (by omega) hc (by omega) h1']
theorem insT_tr {p : Nat} {t c : List ND} (hc : TR c ∧ PZL c) (h4 : 4 ≤ rk c) (ht : TR t ∧ PZL t) : TR (insT p t c) ∧ PZL (insT p t c) := by
  have hk := kd_tr hc.1 hc.2
  have hE : ∀ u ∈ (kd c).take p ++ t :: (kd c).drop p, TR u ∧ PZL u := fun u hu => by
    rcases List.mem_append.mp hu with w | w
    · exact hk u (List.mem_of_mem_take w)
    · rcases List.mem_cons.mp w with w | w
      · rw [w]; exact ht
      · exact hk u (List.mem_of_mem_drop w)
  unfold insT
  exact ⟨tr_gp h4 (fun u hu => (hE u hu).1), pzl_gp (fun u hu => (hE u hu).2)⟩
theorem insT_len {p : Nat} {t c : List ND} (hc : TR c ∧ PZL c) (h4 : 4 ≤ rk c) : (insT p t c).length = c.length + t.length := by
  have e := congrArg List.length (kd_flat hc.2 hc.1.2.1)
  rw [List.length_cons] at e
  unfold insT
  rw [gp_len, List.flatten_append, List.flatten_cons]
  have : (kd c).flatten.length = ((kd c).take p).flatten.length + ((kd c).drop p).flatten.length := by
    rw [← List.length_append, ← List.flatten_append, List.take_append_drop]
  simp only [List.length_append]
  omega
/-- the piece that PUTTING gives is whole -/
theorem putT_tr {l : List Int} {V t : List ND} {z : Bool × Nat × Nat × Nat} (h : TR V ∧ PZL V) (hz : aimS l V = some z) (ht : TR t ∧ PZL t) : TR (putT l V z t) ∧ PZL (putT l V z t) := by
  have ok := aimS_ok h hz
  unfold putT
  cases hb : z.1 with
  | true =>
    rw [if_pos rfl]
    exact (upd_tr V.length V z.2.2.1 (Nat.le_refl _) h (ok.2.1 hb) ⟨tr_ky ht.1, pzl_ky ht.1.2.1 ht.2⟩).1
  | false =>
    rw [if_neg (by decide)]
    have o2 := ok.2.2 hb
    have hs := tr_sg h.1.1 h.2 ok.1
    have r4 : 4 ≤ rk (sg V z.2.1) := by rw [rk_sg ok.1 (pz_l h.2 _)]; exact o2.1
    exact (upd_tr V.length V z.2.1 (Nat.le_refl _) h ok.1 (insT_tr hs r4 ⟨tr_ky ht.1, pzl_ky ht.1.2.1 ht.2⟩)).1
section PUT
variable {S S0 : GS} {a d : Nat} {l : List Int} {V : List ND}
theorem ed_isDoc {T : List ND} (hd : 16 ≤ d) (h : TO 360 (T, false) S) (ht : TR T ∧ PZL T) : Rd (fun n => f_X10_isDocument n d 0 S [((360 : Nat) : Int)]) (if pOK T then 1 else 0) S := by
  have l := tv_l h.1
  have k := t_isDocument (d := d) gT360 hd h (fun _ _ => ht.1.1)
  have e := dOK_p ht l
  by_cases c : pOK T
  · rw [if_pos c]
    exact rd_as k (if_pos (e.mpr c))
  · rw [if_neg c]
    exact rd_as k (if_neg (fun z => c (e.mp z)))
theorem ed_isOver {T : List ND} (hd : 16 ≤ d) (h : TO 360 (T, true) S) : Rd (fun n => f_X10_isDocument n d 0 S [((360 : Nat) : Int)]) 0 S := rd_as (t_isDocument (d := d) gT360 hd h (fun z _ => absurd z (by show ¬ true = false; decide))) (if_neg (fun z => absurd z.1 (by show ¬ true = false; decide)))
theorem ins_spl {o p : Nat} {t : List ND} (h : TR V ∧ PZL V) (ho : o < V.length) (h4 : 4 ≤ nk V o) (hp : p ≤ (kids V o).length) (ht : TR t ∧ PZL t) : spl V o (o1 V o p) 0 t = updF (insT p t) V.length V o := by
  have su := spl_upd (V := V) (o := o) (a := o1 V o p) (g := 0) (E1 := (kd (sg V o)).take p) (M := []) (E2 := (kd (sg V o)).drop p) (N := [t]) h ho h4 (by rw [List.append_nil, List.take_append_drop]) rfl rfl (fun u hu => by simp only [List.mem_cons, List.not_mem_nil, or_false] at hu; rw [hu]; exact ht)
  simp only [List.flatten_cons, List.flatten_nil, List.append_nil] at su
  rw [su]
  refine upd_same V.length V o (Nat.le_refl _) h ho ?_
  show gpN _ ((kd (sg V o)).take p ++ [t] ++ (kd (sg V o)).drop p) _ = gpN _ ((kd (sg V o)).take p ++ t :: (kd (sg V o)).drop p) _
  have e : (kd (sg V o)).take p ++ [t] ++ (kd (sg V o)).drop p = (kd (sg V o)).take p ++ t :: (kd (sg V o)).drop p := by simp
  rw [e]
end PUT
