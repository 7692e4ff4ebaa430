/-! p37: written, typed, read again -/
section XRE
variable {S : GS} {Ds : List (List ND)} {pg pp : List Int} {L : List Nat} {Q : List (List Int)} {C : List (Int × Int)} {d : Nat} {XL : Nat} {XS : Nat → Int} {a : Int} {V X : List ND} {R : Int → GS → Prop}
theorem dg_r {T : List ND} (h : SDC T) : 0 ≤ dgst 7 (wrF 12 1 0 T) ∧ dgst 7 (wrF 12 1 0 T) < 65521 := dgst_r2 _ 7 (by decide) (fun x hx => by have := wrA_ok (w := 1) 12 0 T h x hx; omega)
theorem ab_1 {i : Nat} : abI V i 1 = dpF 13 V i := by
  unfold abI
  rw [if_neg (by decide), if_pos rfl]
theorem ab_2 {i : Nat} : abI V i 2 = (nz V i : Int) := by
  unfold abI
  rw [if_neg (by decide), if_neg (by decide), if_pos rfl]
theorem ab_3 {i : Nat} : abI V i 3 = lnI V (i : Int) := by
  unfold abI
  rw [if_neg (by decide), if_neg (by decide), if_neg (by decide), if_pos rfl]
theorem dp_r (h : DOC V) : 0 ≤ dpF 13 V 0 ∧ dpF 13 V 0 ≤ 14 := by
  have := dpF_r V 13 0
  omega
theorem k_print {w : Int} (h : St Ds S) (hd : 50 ≤ d) (ia : Is Ds a V) (hw : 0 ≤ w ∧ w ≤ 2) : Ev (fun m => f_X11_print m d 0 S [a, w]) (fun x S1 => x = ((wrF 12 w 0 V).length : Int) ∧ (wrF 12 w 0 V).length ≤ 40000 ∧ ∃ pg L Q C, ClS stT Ds pg (wrF 12 w 0 V) 0 L Q C S1) := by
  have ra := is_inr h ia
  obtain ⟨_, _, _, _, _, h⟩ := h
  refine ev_mono (c_print h hd ra.1 (w := w) ⟨by omega, by omega⟩) (fun x S1 q => ?_)
  rw [if_pos ia.1, if_pos hw, ia.2] at q
  exact ⟨q.1, pp_40 q.2, _, _, _, _, q.2⟩
/-- what is read of what was written -/
theorem k_read {w : Int} (h : ClS stT Ds (wrF 12 w 0 V) pp 0 L Q C S) (hV : DOC V) (hd : 70 ≤ d) (h4 : Ds.length < 40) : Ev (fun m => f_X11_read m d 0 S []) (fun x S1 => x = (Ds.length : Int) ∧ St (Ds ++ [woF w 12 V]) S1) := by
  refine ev_mono (c_read h hd (ok_rng (wrA_ok 12 0 V hV.1))) (fun x S1 q => ?_)
  rw [if_pos h4, rdA_back hV.1 hV.2.2.1 hV.2.1] at q
  have q : x = (Ds.length : Int) ∧ ClS stT (Ds ++ [nrH (decide ((0 : Int) = 2)) 13 (kyT (woF w 12 V) [])]) [] pp 0 L Q C S1 := q
  rw [doc_kyQ (wo_doc hV), nrH_id 13 _ (wo_doc hV).1] at q
  exact ⟨q.1, st_of q.2⟩
/-- EQUAL ones are told alike; the last one goes -/
theorem l_re107 {i : Int} (hi : 0 ≤ i ∧ i ≤ 3) (hd : 100 ≤ d) (h : St (Ds ++ [X]) S) (h4 : Ds.length < 40) (ia : Is Ds a V) (e : EK X V) (hl : X.length = V.length) (hr : ∀ S1, St Ds S1 → Ev (fun m => f_L_rereads XL XS m d 4 S1 [a, 1, i + 1]) R) : Ev (fun m => f_L_rereads XL XS m d 107 S [a, i, (Ds.length : Int), 1]) R := by
  have ex := ex_e
  have iX : Is (Ds ++ [X]) (Ds.length : Int) X := is_new rfl
  have iV : Is (Ds ++ [X]) a V := is_app ia
  have dX := is_doc h iX
  have dV := is_doc h iV
  have lX := dX.2.2.1
  have lV := dV.2.2.1
  have l1 := dX.1.1.1.2.1
  have rV := dp_r dV
  have rX := dp_r dX
  have eD := dp_ek dX dV e
  refine ev_up (fun n => e_L_rereads_107) ?_
  unfold b_L_rereads_107
  refine ev_gg (by decide) ?_
  refine ev_ite (fun z => absurd z (by decide)) (fun _ => ?_)
  refine ev_gg (by first | omega | (constructor <;> omega)) ?_
  refine ev_gcr (rd_as (k_node (d := d - 1) (i := 0) (w := 2) h (by omega) iX ⟨by omega, by omega⟩ (by decide)) (show abI X 0 2 = (X.length : Int) by rw [ab_2, nz_0 dX])) ?_
  refine ev_ite (fun _ => ?_) (fun z => by omega)
  refine ev_gcr (rd_as (k_node (d := d - 1) (i := 0) (w := 2) h (by omega) iV ⟨by omega, by omega⟩ (by decide)) (show abI V 0 2 = (V.length : Int) by rw [ab_2, nz_0 dV])) ?_
  refine ev_ite (fun _ => ?_) (fun z => by omega)
  refine ev_gg (by first | omega | (constructor <;> omega)) ?_
  refine ev_gg (by first | omega | (constructor <;> omega)) ?_
  refine ev_ite (fun z => absurd (by omega) z) (fun _ => ?_)
  refine ev_gcr (rd_as (k_node (d := d - 1) (i := 0) (w := 1) h (by omega) iX ⟨by omega, by omega⟩ (by decide)) (show abI X 0 1 = dpF 13 X 0 from ab_1)) ?_
  refine ev_ite (fun _ => ?_) (fun z => by omega)
  refine ev_gcr (rd_as (k_node (d := d - 1) (i := 0) (w := 1) h (by omega) iV ⟨by omega, by omega⟩ (by decide)) (show abI V 0 1 = dpF 13 V 0 from ab_1)) ?_
  refine ev_ite (fun _ => ?_) (fun z => by omega)
  refine ev_gg (by first | omega | (constructor <;> omega)) ?_
  refine ev_gg (by first | omega | (constructor <;> omega)) ?_
  refine ev_ite (fun z => absurd eD z) (fun _ => ?_)
  refine ev_gc (k_undo (d := d - 1) h) (fun x S1 q => ?_)
  obtain ⟨q1, q2⟩ := q
  subst q1
  refine ev_ite (fun _ => ?_) (fun z => by omega)
  refine ev_gg (by first | omega | (constructor <;> omega)) ?_
  refine ev_gg (by first | omega | (constructor <;> omega)) ?_
  refine ev_ite (fun z => absurd rfl z) (fun _ => ?_)
  refine ev_gv ?_
  exact hr S1 q2
theorem l_re36 {i : Int} (hi : 0 ≤ i ∧ i ≤ 2) (hd : 100 ≤ d) (h : ClS stT Ds pg (wrF 12 i 0 V) 0 L Q C S) (h4 : Ds.length < 40) (ia : Is Ds a V) (hr : ∀ S1, St Ds S1 → Ev (fun m => f_L_rereads XL XS m d 4 S1 [a, 1, i + 1]) R) : Ev (fun m => f_L_rereads XL XS m d 36 S [a, i, 1]) R := by
  have ex := ex_e
  have dV := is_doc (st_of h) ia
  have lV := dV.2.2.1
  have l1 := dV.1.1.1.2.1
  refine ev_up (fun n => e_L_rereads_36) ?_
  unfold b_L_rereads_36
  refine ev_gg (by first | omega | (constructor <;> omega)) ?_
  refine ev_gc (l_retyped (d := d - 1) h (wrA_ok 12 0 V dV.1) (by omega)) (fun x S1 q => ?_)
  rcases q with ⟨q1, q2⟩ | ⟨q1, q2⟩
  · subst q1
    refine ev_gg (by decide) ?_
    refine ev_ite (fun z => absurd z (by decide)) (fun _ => ?_)
    refine ev_gc (k_read (d := d - 1) (w := i) q2 dV (by omega) h4) (fun y S2 p => ?_)
    obtain ⟨p1, p2⟩ := p
    subst p1
    have iX : Is (Ds ++ [woF i 12 V]) (Ds.length : Int) (woF i 12 V) := is_new rfl
    have iV : Is (Ds ++ [woF i 12 V]) a V := is_app ia
    have dX : DOC (woF i 12 V) := wo_doc dV
    have eX : EK (woF i 12 V) V := wo_ek dV
    have lX : (woF i 12 V).length = V.length := (wo_sdc (w := i) 12 V dV.1 lV).2
    have el : (Ds ++ [woF i 12 V]).length = Ds.length + 1 := by rw [List.length_append, List.length_singleton]
    refine ev_ite (fun _ => ?_) (fun z => by omega)
    refine ev_gg (by decide) ?_
    refine ev_ite (fun z => absurd z (by decide)) (fun _ => ?_)
    refine ev_gcr (rd_as (k_sum0 (d := d - 1) p2 (by omega)) (show ((Ds ++ [woF i 12 V]).length : Int) = (Ds.length : Int) + 1 by rw [el]; omega)) ?_
    refine ev_ite (fun _ => ?_) (fun z => by omega)
    refine ev_gv ?_
    refine ev_gg (by first | omega | (constructor <;> omega)) ?_
    refine ev_gg (by first | omega | (constructor <;> omega)) ?_
    refine ev_ite (fun z => absurd (by omega) z) (fun _ => ?_)
    refine ev_gcr (k_equal1 (d := d - 1) p2 (by omega) iV iX eX.symm) ?_
    refine ev_ite (fun _ => ?_) (fun z => by omega)
    refine ev_gg (by decide) ?_
    refine ev_ite (fun z => absurd z (by decide)) (fun _ => ?_)
    refine ev_gcr (k_equal1 (d := d - 1) p2 (by omega) iX iV eX) ?_
    refine ev_ite (fun _ => ?_) (fun z => by omega)
    refine ev_gg (by decide) ?_
    refine ev_ite (fun z => absurd z (by decide)) (fun _ => ?_)
    refine ev_gc (k_digest (d := d - 1) (i := 0) p2 (by omega) iX ⟨by omega, by omega⟩) (fun x3 S3 r3 => ?_)
    obtain ⟨r3, s3⟩ := r3
    have r3 : x3 = dgst 7 (wrF 12 1 0 (sg (woF i 12 V) 0)) := r3
    rw [sg_self dX.1.1.1] at r3
    have g3 := dg_r dX.1
    refine ev_ite (fun _ => ?_) (fun z => by omega)
    refine ev_gc (k_digest (d := d - 1) (i := 0) s3 (by omega) iV ⟨by omega, by omega⟩) (fun x4 S4 r4 => ?_)
    obtain ⟨r4, s4⟩ := r4
    have r4 : x4 = dgst 7 (wrF 12 1 0 (sg V 0)) := r4
    rw [sg_self dV.1.1.1, ← wr_ek dX dV eX] at r4
    refine ev_ite (fun _ => ?_) (fun z => by omega)
    refine ev_gg (by first | omega | (constructor <;> omega)) ?_
    refine ev_gg (by first | omega | (constructor <;> omega)) ?_
    refine ev_ite (fun z => absurd (r3.trans r4.symm) z) (fun _ => ?_)
    exact l_re107 ⟨by omega, by omega⟩ hd s4 h4 ia eX lX hr
  · subst q1
    refine ev_gg (by decide) ?_
    refine ev_ite (fun _ => ?_) (fun z => absurd rfl z)
    refine ev_gv ?_
    exact hr S1 (st_of q2)
theorem l_re169 (hd : 100 ≤ d) (h : St Ds S) (h4 : Ds.length < 40) (ia : Is Ds a V) : Ev (fun m => f_L_rereads XL XS m d 169 S [a, 1]) (fun x S1 => x = 1 ∧ St Ds S1) := by
  have ex := ex_e
  have dV := is_doc h ia
  have dX : DOC (woF 1 12 V) := wo_doc dV
  have iX : Is (Ds ++ [woF 1 12 V]) (Ds.length : Int) (woF 1 12 V) := is_new rfl
  have iV : Is (Ds ++ [woF 1 12 V]) a V := is_app ia
  have wl := wr_wo 12 V 0 dV.1 dV.2.2.1
  refine ev_up (fun n => e_L_rereads_169) ?_
  unfold b_L_rereads_169
  refine ev_gg (by first | omega | (constructor <;> omega)) ?_
  refine ev_gc (k_sorted (d := d - 1) h (by omega) ia h4) (fun x S1 q => ?_)
  obtain ⟨q1, q2⟩ := q
  subst q1
  refine ev_ite (fun _ => ?_) (fun z => by omega)
  refine ev_gg (by decide) ?_
  refine ev_ite (fun z => absurd z (by decide)) (fun _ => ?_)
  refine ev_gcr (k_equal1 (d := d - 1) q2 (by omega) iX iV (wo_ek dV)) ?_
  refine ev_ite (fun _ => ?_) (fun z => by omega)
  refine ev_gg (by decide) ?_
  refine ev_ite (fun z => absurd z (by decide)) (fun _ => ?_)
  refine ev_gc (k_print (d := d - 1) (w := 0) q2 (by omega) iX (by decide)) (fun x3 S3 r3 => ?_)
  obtain ⟨r3, l3, _, _, _, _, s3⟩ := r3
  refine ev_ite (fun _ => ?_) (fun z => by omega)
  refine ev_gc (k_print (d := d - 1) (w := 1) (st_of s3) (by omega) iV (by decide)) (fun x4 S4 r4 => ?_)
  obtain ⟨r4, l4, _, _, _, _, s4⟩ := r4
  rw [wl] at r4
  refine ev_ite (fun _ => ?_) (fun z => by omega)
  refine ev_gg (by first | omega | (constructor <;> omega)) ?_
  refine ev_gg (by first | omega | (constructor <;> omega)) ?_
  refine ev_ite (fun z => absurd (r3.trans r4.symm) z) (fun _ => ?_)
  refine ev_gc (k_undo (d := d - 1) (st_of s4)) (fun x5 S5 r5 => ?_)
  obtain ⟨r5, s5⟩ := r5
  subst r5
  refine ev_ite (fun _ => ?_) (fun z => by omega)
  refine ev_gg (by first | omega | (constructor <;> omega)) ?_
  refine ev_gg (by first | omega | (constructor <;> omega)) ?_
  refine ev_ite (fun z => absurd rfl z) (fun _ => ?_)
  exact ev_ret ⟨rfl, s5⟩
theorem l_re4 (hd : 100 ≤ d) (h4 : Ds.length < 40) (ia : Is Ds a V) : ∀ (u i : Nat) (S : GS), i + u = 3 → St Ds S → Ev (fun m => f_L_rereads XL XS m d 4 S [a, 1, (i : Int)]) (fun x S1 => x = 1 ∧ St Ds S1)
  | 0, i, S, hi, h => by
    have e : i = 3 := by omega
    subst e
    refine ev_up (fun n => e_L_rereads_4) ?_
    unfold b_L_rereads_4
    refine ev_gg (by decide) ?_
    refine ev_ite (fun _ => ?_) (fun z => absurd (by decide) z)
    exact l_re169 hd h h4 ia
  | u + 1, i, S, hi, h => by
    have ex := ex_e
    refine ev_up (fun n => e_L_rereads_4) ?_
    unfold b_L_rereads_4
    refine ev_gg (by first | omega | (constructor <;> omega)) ?_
    refine ev_ite (fun z => by omega) (fun _ => ?_)
    refine ev_gg (by decide) ?_
    refine ev_ite (fun z => absurd z (by decide)) (fun _ => ?_)
    refine ev_gg (by first | omega | (constructor <;> omega)) ?_
    refine ev_gc (k_print (d := d - 1) (w := (i : Int)) h (by omega) ia ⟨by omega, by omega⟩) (fun x3 S3 r3 => ?_)
    obtain ⟨r3, l3, _, _, _, _, s3⟩ := r3
    refine ev_ite (fun _ => ?_) (fun z => by omega)
    refine ev_gcr (k_sum2 (d := d - 1) s3 (by omega)) ?_
    refine ev_ite (fun _ => ?_) (fun z => by omega)
    refine ev_gg (by first | omega | (constructor <;> omega)) ?_
    refine ev_gg (by first | omega | (constructor <;> omega)) ?_
    refine ev_ite (fun z => absurd r3 z) (fun _ => ?_)
    refine l_re36 ⟨by omega, by omega⟩ hd s3 h4 ia (fun S1 h1 => ?_)
    rw [show (i : Int) + 1 = ((i + 1 : Nat) : Int) by omega]
    exact l_re4 hd h4 ia u (i + 1) S1 (by omega) h1
theorem l_rereads (hd : 100 ≤ d) (h : St Ds S) (h4 : Ds.length < 40) (ia : Is Ds a V) : Ev (fun m => f_L_rereads XL XS m d 0 S [a]) (fun x S1 => x = 1 ∧ St Ds S1) := by
  refine ev_up (fun n => e_L_rereads_0) ?_
  unfold b_L_rereads_0
  exact l_re4 hd h4 ia 3 0 S rfl h
end XRE
