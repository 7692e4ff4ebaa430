/-! GROWING: the class -/
theorem ky_ky {T : List ND} {q p : List Int} : kyT (kyT T p) q = kyT T q := rfl
theorem insK_ky {t : List ND} {p q : List Int} : ∀ E : List (List ND), insK (kyT t p) q E = insK t q E
  | [] => rfl
  | u :: E => by
    unfold insK
    rw [insK_ky E]
    rfl
theorem nr3_ky : ∀ (f : Nat) (T : List ND) (q : List Int), nr3 f (kyT T q) = kyT (nr3 f T) q
  | 0, T, q => rfl
  | f + 1, T, q => by
    have e1 : rk (kyT T q) = rk T := rfl
    have e2 : kd (kyT T q) = kd T := rfl
    unfold nr3
    rw [e1, e2]
    by_cases h5 : rk T = 5
    · rw [if_pos h5, if_pos h5]
      rfl
    · rw [if_neg h5, if_neg h5]
      by_cases h4 : rk T = 4
      · rw [if_pos h4, if_pos h4]
        rfl
      · rw [if_neg h4, if_neg h4]
theorem grF_rq : ∀ (f : Nat) (lv sz st : Int), rq (grF f lv sz st).1 = []
  | 0, _, _, _ => rfl
  | f + 1, lv, sz, st => by
    unfold grF
    split
    · rfl
    · split
      · rfl
      · split
        · rfl
        · split <;> rfl
theorem clo_gp {P : List ND} {x : ND} {E : List (List ND)} {m : Nat} : clo (P ++ gpN x E m, false) (P.length : Int) = (P ++ gpN x E E.length, false) := by
  unfold clo
  have l : (P ++ gpN x E m).length = P.length + (E.flatten.length + 1) := by rw [List.length_append]; rfl
  rw [if_pos (by show 0 ≤ (P.length : Int) ∧ (P.length : Int) < ((P ++ gpN x E m).length : Int); omega)]
  simp only [Int.toNat_natCast]
  have e : (P ++ gpN x E m).getD P.length nd0 = wZ x (1 + (E.take m).flatten.length) := by
    rw [getD_append, if_neg (by omega), Nat.sub_self]
    rfl
  rw [e, List.set_append_right _ _ (Nat.le_refl _), Nat.sub_self, l]
  have e2 : P.length + (E.flatten.length + 1) - P.length = 1 + (E.take E.length).flatten.length := by rw [List.take_length]; omega
  rw [e2]
  rfl
theorem gp_len {x : ND} {E : List (List ND)} {m : Nat} : (gpN x E m).length = E.flatten.length + 1 := rfl
/-- the VALUE of a KEY in the group at the end of a row -/
theorem vLk_gp {P : List ND} {x : ND} {E : List (List ND)} {key : List Int} (hx : x.1 = 5) (hE : ∀ T ∈ E, TR T) (hz : PZ (P ++ gpN x E E.length)) : vLk (P ++ gpN x E E.length) (P.length : Int) key = fdE key E (P.length + 1) := by
  have l : (P ++ gpN x E E.length).length = P.length + 1 + E.flatten.length := by rw [List.length_append, gp_len]; omega
  have ek : nk (P ++ gpN x E E.length) P.length = 5 := by
    rw [nk_r (Nat.le_refl _), Nat.sub_self]
    exact hx
  have ez : nz (P ++ gpN x E E.length) P.length = 1 + E.flatten.length := by
    rw [nz_r (Nat.le_refl _), Nat.sub_self]
    show 1 + (E.take E.length).flatten.length = _
    rw [List.take_length]
  unfold vLk kidsM
  rw [if_pos (by omega), Int.toNat_natCast, if_pos ek]
  unfold kids
  rw [ez]
  have e : P ++ gpN x E E.length = (P ++ [wZ x (1 + (E.take E.length).flatten.length)]) ++ E.flatten := by
    rw [List.append_assoc]
    rfl
  have k := fdK_flat (key := key) E (P ++ [wZ x (1 + (E.take E.length).flatten.length)]) hE (by rw [← e]; exact hz)
  rw [← e] at k
  have l2 : (P ++ [wZ x (1 + (E.take E.length).flatten.length)]).length = P.length + 1 := by simp
  rw [l2, l] at k
  rw [show P.length + (1 + E.flatten.length) = P.length + 1 + E.flatten.length by omega]
  exact k
section GR3
variable {S S0 : GS} {d : Nat} {P : List ND}
/-- what growing a VALUE comes to -/
def GrQ (S0 : GS) (f : Nat) (P : List ND) (T : List ND) (st : Int) : Int → GS → Prop := fun x S1 => x = (P.length : Int) ∧ GrS S0 (P ++ nr3 f T) st S1 ∧ (0 ≤ st ∧ st < 65536) ∧ (nr3 f T).length ≤ bz f
/-- one VALUE of a MAP -/
theorem gr_entry {f : Nat} {E : List (List ND)} {m : Nat} {st lv sz : Int} (ih : ∀ (P : List ND) (S : GS) (st : Int), P.length + bz f ≤ 100 → WF P → 0 ≤ st ∧ st < 65536 → GrS S0 P st S → Ev (fun n => f_X3_entry n (d - 1) 20000 S [lv + 1, sz]) (GrQ S0 f P (grF f (lv + 1) sz st).1 (grF f (lv + 1) sz st).2)) (hd : 12 ≤ d) (hlv : 0 ≤ lv ∧ lv ≤ 3) (hst : 0 ≤ st ∧ st < 65536) (hP : WF P) (hE : ∀ T ∈ E, TR T ∧ PZL T) (hroom : P.length + 1 + E.flatten.length + bz f ≤ 100) (h : GrS S0 (P ++ gpN (ndK 5) E m) st S) : Ev (fun n => f_X3_entry n d 0 S [(P.length : Int), lv, sz]) (fun _ S1 => ∃ m', GrS S0 (P ++ gpN (ndK 5) (insK (nr3 f (grF f (lv + 1) sz (dr st)).1) [97 + dv st 5] E) m') (grF f (lv + 1) sz (dr st)).2 S1 ∧ (0 ≤ (grF f (lv + 1) sz (dr st)).2 ∧ (grF f (lv + 1) sz (dr st)).2 < 65536) ∧ (nr3 f (grF f (lv + 1) sz (dr st)).1).length ≤ bz f) := by
  have r1 := dv_r (st := st) (n := 5) (by decide)
  have ht := (nr3_tr f _ (grF_tr f (lv + 1) sz (dr st))).1
  have hrq := (nr3_tr f _ (grF_tr f (lv + 1) sz (dr st))).2
  rw [grF_rq] at hrq
  have hwf : WF (P ++ gpN (ndK 5) E E.length) := wf_app hP (wf_gp (by decide) (fun T hT => (hE T hT).1))
  have hVl : (P ++ gpN (ndK 5) E E.length).length = P.length + 1 + E.flatten.length := by rw [List.length_append, gp_len]; omega
  generalize hK : 97 + dv st 5 = key0 at *
  generalize hT : (grF f (lv + 1) sz (dr st)).1 = T at *
  generalize hst2 : (grF f (lv + 1) sz (dr st)).2 = st2 at *
  refine ev_up (fun n => e_X3_entry_0) ?_
  unfold b_X3_entry_0
  refine ev_gg (by omega) ?_
  refine ev_gc (sx_clear gSh466 h.2.2.2) (fun _ S1 s1 => ?_)
  have g1 := gr_sheet (Or.inr rfl) h s1
  refine ev_gc (fr_draw g1 hst (by decide)) (fun x S2 q2 => ?_)
  obtain ⟨rfl, g2, f2⟩ := q2
  have v2 : SV S2 466 [] := sv_fr s1.1 f2 (by omega) (by omega)
  rw [hK]
  refine ev_gv ?_
  refine ev_gc (sx_add gSh466 (sx_rf g2.2.2.2 v2) (by omega) (by show 0 < g_room 467; decide)) (fun _ S3 s3 => ?_)
  rw [List.nil_append] at s3
  have g3 := gr_sheet (Or.inr rfl) g2 s3
  refine ev_gc (ty_close (i := (P.length : Int)) gT408 (by omega) (gr_ty g3) (by constructor <;> omega)) (fun _ S4 q4 => ?_)
  rw [clo_gp] at q4
  have g4 := gr_tree g3 q4
  have v4 : SV S4 466 [key0] := sv_ty gT408 gSh466 s3.1 q4
  have hz4 := pz_of g4.1.1.2.2.2
  have ev := vLk_gp (P := P) (x := ndK 5) (E := E) (key := [key0]) rfl (fun T hT => (hE T hT).1) hz4
  refine ev_gcr (rd_as (t_valueOf (d := d - 1) (g := (P.length : Int)) gT408 g4.1.1 hwf (by constructor <;> omega) (by omega) gSh466 v4) ev) ?_
  refine ev_gcr (rd_as (s9_at (i := 0) gSh466 v4 (by decide)) (show atD [key0] 0 = key0 from rfl)) ?_
  refine ev_gv ?_
  have call := ih (P ++ gpN (ndK 5) E E.length) S4 (dr st) (by omega) hwf dr_r g4
  rw [hT, hst2] at call
  refine ev_gc call (fun x S5 q5 => ?_)
  obtain ⟨rfl, g5, r5, l5⟩ := q5
  have tl := ht.1.2.1
  have hV3 : (P ++ gpN (ndK 5) E E.length ++ nr3 f T).length = (P ++ gpN (ndK 5) E E.length).length + (nr3 f T).length := List.length_append
  have e8 : (nr3 f T).set 0 (wQ ((nr3 f T).getD 0 nd0) [key0]) = kyT (nr3 f T) [key0] := by
    cases hn : nr3 f T with
    | nil => rw [hn] at tl; simp at tl
    | cons a b => rfl
  have e9 : (nr3 f T).set 0 (wQ ((nr3 f T).getD 0 nd0) []) = kyT (nr3 f T) [] := by
    cases hn : nr3 f T with
    | nil => rw [hn] at tl; simp at tl
    | cons a b => rfl
  rcases fdE_ins (t := nr3 f T) (key := [key0]) E (P.length + 1) with ⟨h1, h2⟩ | ⟨A, u, B, h1, h2, h3, h4⟩
  · rw [h1, h2]
    refine ev_gg (by decide) ?_
    refine ev_ite (fun z => absurd rfl z) (fun _ => ?_)
    refine ev_gc (ty_addKeySign (i := ((P ++ gpN (ndK 5) E E.length).length : Int)) (a := key0) gT408 (gr_ty g5) (by constructor <;> omega) (by omega)) (fun _ S6 q6 => ?_)
    have e0 : (P ++ gpN (ndK 5) E E.length ++ nr3 f T).getD (P ++ gpN (ndK 5) E E.length).length nd0 = (nr3 f T).getD 0 nd0 := by
      rw [getD_append, if_neg (by omega), Nat.sub_self]
    have e1 : nq (P ++ gpN (ndK 5) E E.length ++ nr3 f T) (P ++ gpN (ndK 5) E E.length).length = [] := by
      unfold nq
      rw [e0]
      exact hrq
    have e5 := aKss_ok [key0] (P ++ gpN (ndK 5) E E.length ++ nr3 f T, false) (P ++ gpN (ndK 5) E E.length).length (by show _ < (P ++ gpN (ndK 5) E E.length ++ nr3 f T).length; omega) (by rw [e1]; simp)
    have e6 : aKss (P ++ gpN (ndK 5) E E.length ++ nr3 f T, false) ((P ++ gpN (ndK 5) E E.length).length : Int) [key0] = aKs (P ++ gpN (ndK 5) E E.length ++ nr3 f T, false) (P ++ gpN (ndK 5) E E.length).length key0 := rfl
    rw [e6] at e5
    rw [e5] at q6
    simp only [e0, e1, List.nil_append] at q6
    refine ev_ret ⟨E.length, ?_, r5, l5⟩
    have q := gr_tree g5 q6
    have e7 : (P ++ gpN (ndK 5) E E.length ++ nr3 f T).set (P ++ gpN (ndK 5) E E.length).length (wQ ((nr3 f T).getD 0 nd0) [key0]) = P ++ gpN (ndK 5) (E ++ [kyT (nr3 f T) [key0]]) E.length := by
      rw [List.set_append_right _ _ (Nat.le_refl _), Nat.sub_self]
      rw [e8]
      unfold gpN
      simp
    rw [e7] at q
    exact q
  · rw [h3, h4]
    subst h1
    have hA : ∀ T ∈ A, TR T := fun T hT => (hE T (List.mem_append_left _ hT)).1
    have hu := hE u (List.mem_append_right _ List.mem_cons_self)
    have hfl : (A ++ u :: B).flatten = A.flatten ++ u ++ B.flatten := by simp
    have hfll : (A ++ u :: B).flatten.length = A.flatten.length + u.length + B.flatten.length := by rw [hfl, List.length_append, List.length_append]
    have egp : P ++ gpN (ndK 5) (A ++ u :: B) (A ++ u :: B).length = P ++ (wZ (ndK 5) (1 + (A.flatten ++ u ++ B.flatten).length) :: (A.flatten ++ u ++ B.flatten)) := by
      unfold gpN
      rw [List.take_length, hfl]
    have hul := hu.1.2.1
    refine ev_gg (by constructor <;> omega) ?_
    refine ev_ite (fun _ => ?_) (fun z => absurd (show ((P.length + 1 + A.flatten.length : Nat) : Int) ≠ -1 by omega) z)
    have hsgz : nz (P ++ gpN (ndK 5) (A ++ u :: B) (A ++ u :: B).length ++ nr3 f T) (P ++ gpN (ndK 5) (A ++ u :: B) (A ++ u :: B).length).length = (nr3 f T).length := by
      rw [nz_r (Nat.le_refl _), Nat.sub_self]
      exact ht.1.2.2
    have hzu : ∀ p, p < (P ++ gpN (ndK 5) (A ++ u :: B) (A ++ u :: B).length).length → nz (P ++ gpN (ndK 5) (A ++ u :: B) (A ++ u :: B).length ++ nr3 f T) p = nz (P ++ gpN (ndK 5) (A ++ u :: B) (A ++ u :: B).length) p := fun p hp => nz_l hp
    have rb := t_replaceByLast (d := d - 1) (c3 := 416) (i := P.length + 1 + A.flatten.length) (k := (P ++ gpN (ndK 5) (A ++ u :: B) (A ++ u :: B).length).length) gT408 gT416 (by decide) (by omega) g5.1 g5.2.2.2 rfl (by omega) (by show _ < (P ++ gpN (ndK 5) (A ++ u :: B) (A ++ u :: B).length ++ nr3 f T).length; omega) (by rw [hsgz]; exact hV3.symm) (fun p hp hq => by
      rw [hzu p (by omega)] at hq ⊢
      rw [hzu _ (by omega)]
      refine ⟨?_, hwf.1 p (by omega)⟩
      by_cases hpo : p = P.length + 1 + A.flatten.length
      · subst hpo; exact Nat.le_refl _
      · exact hwf.2.1 p _ (by omega) hq)
    refine ev_gc rb (fun _ S6 q6 => ?_)
    obtain ⟨t1, t2, t3, t4⟩ := q6
    refine ev_ret ⟨(A ++ kyT (nr3 f T) [key0] :: B).length, ?_, r5, l5⟩
    have ecp : (cpW (P ++ gpN (ndK 5) (A ++ u :: B) (A ++ u :: B).length ++ nr3 f T) false ((P ++ gpN (ndK 5) (A ++ u :: B) (A ++ u :: B).length).length : Int)).1 = kyT (nr3 f T) [] := by
      have sz : szI (P ++ gpN (ndK 5) (A ++ u :: B) (A ++ u :: B).length ++ nr3 f T) ((P ++ gpN (ndK 5) (A ++ u :: B) (A ++ u :: B).length).length : Int) = ((nr3 f T).length : Int) := by
        rw [szI_nat (by omega), hsgz]
      have es : seg (P ++ gpN (ndK 5) (A ++ u :: B) (A ++ u :: B).length ++ nr3 f T) (P ++ gpN (ndK 5) (A ++ u :: B) (A ++ u :: B).length).length (nr3 f T).length = nr3 f T := by
        unfold seg
        rw [List.drop_left' rfl, List.take_length]
      unfold cpW apW
      rw [sz, if_pos ⟨rfl, by omega, by show (0 : Int) + _ ≤ 100; omega⟩]
      simp only [Int.toNat_natCast, es, List.nil_append]
      unfold cKy
      rw [if_pos ⟨Int.le_refl _, by show (0 : Int) < ((nr3 f T).length : Int); omega⟩]
      exact e9
    have erp : rpl ((P ++ gpN (ndK 5) (A ++ u :: B) (A ++ u :: B).length ++ nr3 f T).take (P ++ gpN (ndK 5) (A ++ u :: B) (A ++ u :: B).length).length) (P.length + 1 + A.flatten.length) (cpW (P ++ gpN (ndK 5) (A ++ u :: B) (A ++ u :: B).length ++ nr3 f T) false ((P ++ gpN (ndK 5) (A ++ u :: B) (A ++ u :: B).length).length : Int)).1 0 = P ++ gpN (ndK 5) (A ++ kyT (nr3 f T) [key0] :: B) (A ++ kyT (nr3 f T) [key0] :: B).length := by
      rw [ecp, List.take_left', egp, rpl_gp hP (wf_flat hA) hu.1 (tr_ky ht.1), h2, ky_ky]
      · unfold gpN
        rw [List.take_length]
        simp
      · rfl
    rw [erp] at t1
    refine ⟨t1, ?_, fr_tr g5.2.2.1 (fr_mono t2 (fun c hc => by unfold trM at hc; unfold grM; omega)), t3⟩
    rw [(t2 494 (by unfold trM; omega)).1]
    exact g5.2.1
end GR3
