/-! p37: NODES by their PATHS -/
section XFI
variable {S : GS} {Ds : List (List ND)} {d : Nat} {XL : Nat} {XS : Nat → Int} {a : Int} {V : List ND} {i : Nat}
theorem l_fi51 (hd : 100 ≤ d) (h : St Ds S) (h4 : Ds.length < 40) (ia : Is Ds a V) (hi : i < V.length) : Ev (fun m => f_L_finds XL XS m d 51 S [a, (i : Int), 1]) (fun x S1 => x = 1 ∧ St Ds S1) := by
  have ex := ex_e
  have dV := is_doc h ia
  have lV := dV.2.2.1
  have sl := sg_len (V := V) (i := i) dV.1.1.1.1 hi
  have z1 := pz_l dV.1.1.2 i
  have wz := dV.1.1.1.1.1 i hi
  have kl : (kyT (sg V i) []).length = nz V i := by rw [ky_len (by omega), sl]
  refine ev_up (fun n => e_L_finds_51) ?_
  unfold b_L_finds_51
  refine ev_gg (by first | omega | (constructor <;> omega)) ?_
  refine ev_gc (k_take (d := d - 1) (i := (i : Int)) h (by omega) ia ⟨by omega, by omega⟩ h4) (fun x S1 q => ?_)
  obtain ⟨q1, q2⟩ := q
  subst q1
  rw [Int.toNat_natCast] at q2
  have iX : Is (Ds ++ [kyT (sg V i) []]) (Ds.length : Int) (kyT (sg V i) []) := is_new rfl
  have iV : Is (Ds ++ [kyT (sg V i) []]) a V := is_app ia
  have dX := is_doc q2 iX
  have g3 := dg_r dX.1
  have nl := nz_0 dX
  have wk : wrF 12 1 0 (kyT (sg V i) []) = wrF 12 1 0 (sg V i) := wr_ky
  refine ev_ite (fun _ => ?_) (fun z => by omega)
  refine ev_gg (by decide) ?_
  refine ev_ite (fun z => absurd z (by decide)) (fun _ => ?_)
  refine ev_gc (k_digest (d := d - 1) (i := 0) q2 (by omega) iX ⟨by omega, by omega⟩) (fun x3 S3 r3 => ?_)
  obtain ⟨r3, s3⟩ := r3
  have r3 : x3 = dgst 7 (wrF 12 1 0 (sg (kyT (sg V i) []) 0)) := r3
  rw [sg_self dX.1.1.1] at r3
  refine ev_ite (fun _ => ?_) (fun z => by omega)
  refine ev_gc (k_digest (d := d - 1) (i := (i : Int)) s3 (by omega) iV ⟨by omega, by omega⟩) (fun x4 S4 r4 => ?_)
  obtain ⟨r4, s4⟩ := r4
  rw [Int.toNat_natCast, ← wk] at r4
  refine ev_ite (fun _ => ?_) (fun z => by omega)
  refine ev_gg (by first | omega | (constructor <;> omega)) ?_
  refine ev_gg (by first | omega | (constructor <;> omega)) ?_
  refine ev_ite (fun z => absurd (r3.trans r4.symm) z) (fun _ => ?_)
  refine ev_gcr (rd_as (k_node (d := d - 1) (i := 0) (w := 2) s4 (by omega) iX ⟨by omega, by omega⟩ (by decide)) (show abI (kyT (sg V i) []) 0 2 = (nz V i : Int) by rw [ab_2, nl, kl])) ?_
  refine ev_ite (fun _ => ?_) (fun z => by omega)
  refine ev_gcr (rd_as (k_node (d := d - 1) (i := (i : Int)) (w := 2) s4 (by omega) iV ⟨by omega, by omega⟩ (by decide)) (show abI V (i : Int).toNat 2 = (nz V i : Int) by rw [Int.toNat_natCast, ab_2])) ?_
  refine ev_ite (fun _ => ?_) (fun z => by omega)
  refine ev_gg (by first | omega | (constructor <;> omega)) ?_
  refine ev_gg (by first | omega | (constructor <;> omega)) ?_
  refine ev_ite (fun z => absurd rfl z) (fun _ => ?_)
  refine ev_gc (k_undo (d := d - 1) s4) (fun x5 S5 r5 => ?_)
  obtain ⟨r5, s5⟩ := r5
  subst r5
  refine ev_ite (fun _ => ?_) (fun z => by omega)
  refine ev_gg (by first | omega | (constructor <;> omega)) ?_
  refine ev_gg (by first | omega | (constructor <;> omega)) ?_
  refine ev_ite (fun z => absurd rfl z) (fun _ => ?_)
  exact ev_ret ⟨rfl, s5⟩
theorem l_finds (hd : 110 ≤ d) (h : St Ds S) (h4 : Ds.length < 40) (ia : Is Ds a V) (hK : LKy V) (hi : i < V.length) : Ev (fun m => f_L_finds XL XS m d 0 S [a, (i : Int)]) (fun x S1 => x = 1 ∧ St Ds S1) := by
  have ex := ex_e
  have dV := is_doc h ia
  have lV := dV.2.2.1
  have ra := is_inr h ia
  obtain ⟨pk1, pk2, pk3⟩ := path_ok dV hK hi
  obtain ⟨pg, pp, L, Q, C, h⟩ := h
  refine ev_up (fun n => e_L_finds_0) ?_
  unfold b_L_finds_0
  refine ev_gg (by first | omega | (constructor <;> omega)) ?_
  refine ev_gc (c_tell (d := d - 1) (i := (i : Int)) (w := 3) h (by omega) ra.1 ⟨by omega, by omega⟩ (by decide)) (fun x S1 q => ?_)
  rw [if_pos ⟨ia.1, by rw [ia.2]; constructor <;> omega⟩, if_pos (by decide), if_pos (show tlO (atD' Ds a) (i : Int).toNat 3 from Or.inl rfl), ia.2, Int.toNat_natCast] at q
  obtain ⟨q1, q2⟩ := q
  have q1 : x = ((pth V i).length : Int) := q1
  have q2 : ClS stT Ds pg (pth V i) 0 L Q C S1 := q2
  have l40 := pp_40 q2
  refine ev_ite (fun _ => ?_) (fun z => by omega)
  refine ev_gc (l_retyped (d := d - 1) q2 (fun y hy => by have := pk3 y hy; omega) (by omega)) (fun y S2 p => ?_)
  rcases p with ⟨p1, p2⟩ | ⟨p1, p2⟩
  · subst p1
    refine ev_gg (by decide) ?_
    refine ev_ite (fun z => absurd z (by decide)) (fun _ => ?_)
    refine ev_gc (c_select (d := d - 1) p2 (by omega) ra.1 (fun y hy => by have := pk3 y hy; omega)) (fun w S3 r => ?_)
    rw [if_pos ia.1, if_pos pk1, ia.2, pk2] at r
    obtain ⟨r1, r2⟩ := r
    have r1 : w = 1 := r1
    subst r1
    refine ev_ite (fun _ => ?_) (fun z => by omega)
    refine ev_gg (by decide) ?_
    refine ev_ite (fun z => absurd rfl z) (fun _ => ?_)
    refine ev_gcr (rd_as (c_find (d := d - 1) (k := 0) r2 (by omega) (by decide)) (show (if (0 : Int) ≤ 0 ∧ (0 : Int) < (([i] : List Nat).length : Int) then ((([i] : List Nat).getD (0 : Int).toNat 0 : Nat) : Int) else exB + 3) = (i : Int) from if_pos ⟨Int.le_refl 0, by show (0 : Int) < 1; decide⟩)) ?_
    refine ev_ite (fun _ => ?_) (fun z => by omega)
    refine ev_gg (by first | omega | (constructor <;> omega)) ?_
    refine ev_gg (by first | omega | (constructor <;> omega)) ?_
    refine ev_ite (fun z => absurd rfl z) (fun _ => ?_)
    refine ev_gcr (rd_as (k_sum1 (d := d - 1) r2 (by omega)) (show (([] : List Int).length : Int) = 0 from rfl)) ?_
    refine ev_ite (fun _ => ?_) (fun z => by omega)
    refine ev_gg (by decide) ?_
    refine ev_ite (fun z => absurd rfl z) (fun _ => ?_)
    exact l_fi51 (by omega) (st_of r2) h4 ia hi
  · subst p1
    refine ev_gg (by decide) ?_
    refine ev_ite (fun _ => ?_) (fun z => absurd rfl z)
    exact l_fi51 (by omega) (st_of p2) h4 ia hi
end XFI
