/-! THE REFERENCE's patch: MAPS, and the call -/
abbrev psP (top : Nat) : Nat → Nat → Prop := fun c j => ptP c j ∨ ((c = 525 ∨ c = 526 ∨ c = 527) ∧ top ≤ j)
theorem ps_or {c j top : Nat} (z : orP 40 c j) : psP top c j := Or.inl (Or.inl z)
theorem ps_do {c j top : Nat} (z : doP 40 c j) : psP top c j := Or.inl (Or.inl (Or.inl z))
theorem ps_b {c j top : Nat} (z : (c = 502 ∧ j = 40) ∨ (c = 500 ∧ j = 5)) : psP top c j := ps_do (Or.inr z)
theorem ps_38 {c j top : Nat} (z : c = 500 ∧ j = 38) : psP top c j := Or.inl (Or.inl (Or.inr (Or.inr z)))
theorem ps_t {c j top : Nat} (z : (c = 525 ∨ c = 526 ∨ c = 527) ∧ j = top) : psP top c j := Or.inr ⟨z.1, by omega⟩
theorem ps_t1 {c j top : Nat} (z : (c = 525 ∨ c = 526 ∨ c = 527) ∧ j = top + 1) : psP top c j := Or.inr ⟨z.1, by omega⟩
theorem ps_7 {c j top : Nat} (z : c = 527 ∧ j = top) : psP top c j := Or.inr ⟨Or.inr (Or.inr z.1), by omega⟩
theorem ps_up {c j top : Nat} (z : psP (top + 1) c j) : psP top c j := z.elim Or.inl (fun y => Or.inr ⟨y.1, by omega⟩)
theorem btF_o {V U : List ND} {f i j : Nat} {os : Option (List (List ND))} (h : ¬ (¬ smJ 13 V i U (j : Int) = true ∧ nk V i = 5 ∧ nk U j = 5)) : btF V U (f + 1) (pth V i) i j os = ptO V U i j os := by
  rw [btF_s]
  unfold ptO
  by_cases c : smJ 13 V i U (j : Int) = true
  · rw [if_pos c, if_pos c]
  · rw [if_neg c, if_neg c, if_neg (fun z => h ⟨c, z⟩), if_neg (fun z => h ⟨c, z⟩)]
theorem btF_m {V U : List ND} {f i j : Nat} {os : Option (List (List ND))} (h : ¬ smJ 13 V i U (j : Int) = true ∧ nk V i = 5 ∧ nk U j = 5) : btF V U (f + 1) (pth V i) i j os = anF V U (pth V i) i (kids U j) (gnF (btF V U f) V U (pth V i) j (kids V i) (rmF V U (pth V i) j (kids V i) os)) ∧ ptO V U i j os = os := by
  constructor
  · rw [btF_s, if_neg h.1, if_pos h.2]
  · unfold ptO
    rw [if_neg h.1, if_pos h.2]
def PvR (d A B : Nat) (V U : List ND) (f : Nat) : Prop := ∀ (I J top : Nat) (os : Option (List (List ND))) (S : GS) (Q : Int → GS → Prop), I < V.length → J < U.length → nk V I = 5 → nk U J = 5 → (∀ r, dpS r (sg V I) ≤ (f : Int)) → top + f ≤ 14 → LK S A V → LK S B U → LsQ 40 os S → S.1 525 top = (I : Int) → S.1 526 top = (J : Int) → S.1 527 top = ((I + 1 : Nat) : Int) → (∀ S1, LsQ 40 (anF V U (pth V I) I (kids U J) (gnF (btF V U f) V U (pth V I) J (kids V I) os)) S1 → FC (psP top) S S1 → Ev (fun n => f_X12_makesPatch n d 65 S1 [(A : Int), (B : Int), (top : Int)]) Q) → Ev (fun n => f_X12_makesPatch n d 65 S [(A : Int), (B : Int), ((top + 1 : Nat) : Int)]) Q
section RPQ
variable {S : GS} {d A B : Nat} {V U : List ND}
theorem pv_all (hd : 13 ≤ d) (hA : A < 40) (hB : B < 40) (hV : DOC V) (hU : DOC U) : ∀ f, PvR d A B V U f := by
  intro f
  induction f with
  | zero =>
    intro I J top os S Q hI hJ h5 _ hdp
    exfalso
    have r5 := rk4 hV.1.1 hI
    have := hdp 0
    unfold dpS at this
    rw [if_pos (by omega)] at this
    omega
  | succ f ih =>
    intro I J top os S Q hI hJ h5 h5b hdp htop hL hM hs c25 c26 c27 nx
    have hV0 := hV.1.1
    have hU0 := hU.1.1
    have lv := hV.2.2.1
    have lu := hU.2.2.1
    have zV := pz_l hV0.2
    have wn := hV0.1.1.1 I hI
    have r5 := rk4 hV0 hI
    have inv : ∀ S1, FC (psP top) S S1 → LK S1 A V ∧ LK S1 B U := fun S1 f1 => ⟨lk_fr hL f1 (fun j _ _ => by omega) (by omega), lk_fr hM f1 (fun j _ _ => by omega) (by omega)⟩
    have lp : ∀ (K : List Nat) (e : Nat) (S1 : GS) (os1 : Option (List (List ND))), ks V e (I + nz V I) = K → e ≤ I + nz V I → (∃ K1, kids V I = K1 ++ K) → S1.1 525 top = (I : Int) → S1.1 526 top = (J : Int) → S1.1 527 top = (e : Int) → LsQ 40 os1 S1 → FC (psP top) S S1 → gnF (btF V U (f + 1)) V U (pth V I) J K os1 = gnF (btF V U (f + 1)) V U (pth V I) J (kids V I) os → Ev (fun n => f_X12_makesPatch n d 65 S1 [(A : Int), (B : Int), ((top + 1 : Nat) : Int)]) Q := by
      intro K
      induction K with
      | nil =>
        intro e S1 os1 he hel hks a25 a26 a27 hls f1 hg
        obtain ⟨i1, i2⟩ := inv S1 f1
        have ee : e = I + nz V I := by
          by_cases z : e < I + nz V I
          · rw [ks_cons zV z] at he
            cases he
          · omega
        have hg' : os1 = gnF (btF V U (f + 1)) V U (pth V I) J (kids V I) os := hg
        rw [← hg'] at nx
        refine ev_up (fun n => e_X12_makesPatch_65) ?_
        unfold b_X12_makesPatch_65
        refine ev_gg (by first | omega | (constructor <;> omega)) ?_
        refine ev_ite (fun z => by omega) (fun _ => ?_)
        refine ev_gv ?_
        refine ev_gg (by first | omega | (constructor <;> omega)) ?_
        refine ev_gv ?_
        rw [show (((top + 1 : Nat) : Int) - 1).toNat = top by omega, a25]
        refine ev_gv ?_
        refine ev_gg (by first | omega | (constructor <;> omega)) ?_
        refine ev_gv ?_
        rw [show (((top + 1 : Nat) : Int) - 1).toNat = top by omega, a26]
        refine ev_gv ?_
        refine ev_gg (by first | omega | (constructor <;> omega)) ?_
        refine ev_gv ?_
        rw [show (((top + 1 : Nat) : Int) - 1).toNat = top by omega, a27]
        refine ev_gg (by first | omega | (constructor <;> omega)) ?_
        refine ev_gcr (q_endL (d := d - 1) (K := A) (I := I) (V := V) (by omega) rfl (by omega) rfl i1 hI) ?_
        refine ev_gg (by first | omega | (constructor <;> omega)) ?_
        refine ev_gg (by first | omega | (constructor <;> omega)) ?_
        refine ev_ite (fun z => by omega) (fun _ => ?_)
        refine ev_gc (q_addsKeys (d := d - 1) (A := A) (B := B) (I := I) (J := J) (V := V) (U := U) (by omega) rfl hA rfl hB rfl rfl i1 i2 hV hU hI hJ h5 hls) (fun _ S2 q2 => ?_)
        obtain ⟨l2, f2⟩ := q2
        refine ev_gv ?_
        rw [show ((top + 1 : Nat) : Int) + (-1) = (top : Int) by omega]
        exact nx S2 l2 (fc_tr f1 (fc_mono f2 (fun c j z => Or.inl z)))
      | cons c K ihK =>
        intro e S1 os1 he hel hks a25 a26 a27 hls f1 hg
        obtain ⟨i1, i2⟩ := inv S1 f1
        obtain ⟨K1, hks⟩ := hks
        have zl : e < I + nz V I := by
          by_cases z : e < I + nz V I
          · exact z
          · rw [ks_nil (by omega)] at he
            cases he
        have ee : e = c ∧ ks V (e + nz V e) (I + nz V I) = K := by
          rw [ks_cons zV zl] at he
          have := List.cons.inj he
          exact this
        obtain ⟨rfl, eK⟩ := ee
        have cm : e ∈ kids V I := by rw [hks]; exact List.mem_append_right _ List.mem_cons_self
        have ci := kid_in3 hV0.1.1 zV hI cm
        have kon := kid_own hV0.1.1 zV hks
        have pu := pth_up hV0 (i := e) (by omega) ci.2.1 kon.1
        have ev : vLk U (J : Int) (nq V e) = fdK U (nq V e) (kids U J) := by rw [vLk_n hJ, if_pos h5b]
        have vin : inr (fdK U (nq V e) (kids U J)) := by
          rw [← ev]
          exact vl_in hU0 lu
        have er : gnF (btF V U (f + 1)) V U (pth V I) J (e :: K) os1 = gnF (btF V U (f + 1)) V U (pth V I) J K (if vLk U (J : Int) (nq V e) = -1 then os1 else btF V U (f + 1) (pth V I ++ stp V e) e (vLk U (J : Int) (nq V e)).toNat os1) := rfl
        rw [er, ← pu] at hg
        have dpe : ∀ r, dpS r (sg V e) ≤ (f : Int) := by
          have ek : sg V e ∈ kd (sg V I) := by
            rw [kd_sg hV0.2 hV0.1.1 hI]
            exact List.mem_map.mpr ⟨e, cm, rfl⟩
          have := dp_kd (T := sg V I) (b := (f : Int)) (fun g => by have := hdp g; omega) (by omega) ek
          exact this
        refine ev_up (fun n => e_X12_makesPatch_65) ?_
        unfold b_X12_makesPatch_65
        refine ev_gg (by first | omega | (constructor <;> omega)) ?_
        refine ev_ite (fun z => by omega) (fun _ => ?_)
        refine ev_gv ?_
        refine ev_gg (by first | omega | (constructor <;> omega)) ?_
        refine ev_gv ?_
        rw [show (((top + 1 : Nat) : Int) - 1).toNat = top by omega, a25]
        refine ev_gv ?_
        refine ev_gg (by first | omega | (constructor <;> omega)) ?_
        refine ev_gv ?_
        rw [show (((top + 1 : Nat) : Int) - 1).toNat = top by omega, a26]
        refine ev_gv ?_
        refine ev_gg (by first | omega | (constructor <;> omega)) ?_
        refine ev_gv ?_
        rw [show (((top + 1 : Nat) : Int) - 1).toNat = top by omega, a27]
        refine ev_gg (by first | omega | (constructor <;> omega)) ?_
        refine ev_gcr (q_endL (d := d - 1) (K := A) (I := I) (V := V) (by omega) rfl (by omega) rfl i1 hI) ?_
        refine ev_gg (by first | omega | (constructor <;> omega)) ?_
        refine ev_gg (by first | omega | (constructor <;> omega)) ?_
        refine ev_ite (fun _ => ?_) (fun z => by omega)
        refine ev_gv ?_
        refine ev_gcr (q_endL (d := d - 1) (K := A) (I := e) (V := V) (by omega) rfl (by omega) rfl i1 ci.2.1) ?_
        refine ev_gg (by first | omega | (constructor <;> omega)) ?_
        refine ev_gv ?_
        rw [show (((top + 1 : Nat) : Int) - 1).toNat = top by omega]
        have f2 : FC (fun c j => c = 527 ∧ j = top) S1 (gI S1 527 top ((e + nz V e : Nat) : Int)) := fc_gI ⟨rfl, rfl⟩
        have b27 : (gI S1 527 top ((e + nz V e : Nat) : Int)).1 527 top = ((e + nz V e : Nat) : Int) := gI_a
        generalize gI S1 527 top ((e + nz V e : Nat) : Int) = S2 at f2 b27 ⊢
        have f02 : FC (psP top) S S2 := fc_tr f1 (fc_mono f2 (fun c j z => by first | exact ps_b z | exact ps_38 z | exact ps_do z | exact ps_t z | exact ps_t1 z | exact ps_7 z | exact ps_up z))
        obtain ⟨j1, j2⟩ := inv S2 f02
        have b25 : S2.1 525 top = (I : Int) := by rw [fc_i f2 (by omega)]; exact a25
        have b26 : S2.1 526 top = (J : Int) := by rw [fc_i f2 (by omega)]; exact a26
        have ls2 := lsq_fr hls f2 (fun j _ _ => by omega) (by omega) (by omega) (by omega)
        refine ev_gcr (q_likeL (d := d - 1) (K := B) (G := J) (F := A) (J := e) (V := U) (W := V) (by omega) rfl (by omega) rfl rfl (by omega) rfl j2 hU0 hJ j1 ci.2.1) ?_
        rw [ev] at hg
        refine ev_gg (vin) ?_
        refine ev_ite (fun z => ?_) (fun z => ?_)
        · rw [if_pos z] at hg
          exact ihK (e + nz V e) S2 os1 eK (by omega) ⟨K1 ++ [e], by rw [hks]; simp⟩ b25 b26 b27 ls2 f02 hg
        · rw [if_neg z] at hg
          obtain ⟨v, evv, vl⟩ := vl_at (c := J) (q := nq V e) hU0 (by rw [ev]; exact z)
          rw [ev] at evv
          rw [evv, Int.toNat_natCast] at hg
          rw [evv]
          refine ev_gc (q_patches (d := d - 1) (A := A) (B := B) (I := e) (J := v) (V := V) (U := U) (by omega) rfl hA rfl hB rfl rfl j1 j2 hV hU ci.2.1 vl ls2) (fun x S3 q3 => ?_)
          obtain ⟨xe, l3, f3⟩ := q3
          have f03 : FC (psP top) S S3 := fc_tr f02 (fc_mono f3 (fun c j z => Or.inl z))
          have d25 : S3.1 525 top = (I : Int) := by rw [fc_i f3 (by omega)]; exact b25
          have d26 : S3.1 526 top = (J : Int) := by rw [fc_i f3 (by omega)]; exact b26
          have d27 : S3.1 527 top = ((e + nz V e : Nat) : Int) := by rw [fc_i f3 (by omega)]; exact b27
          by_cases cm2 : ¬ smJ 13 V e U (v : Int) = true ∧ nk V e = 5 ∧ nk U v = 5
          · rw [if_pos cm2] at xe
            subst xe
            obtain ⟨bm, bo⟩ := btF_m (f := f) (os := os1) cm2
            rw [bo] at l3
            rw [bm] at hg
            refine ev_gg (by decide) ?_
            refine ev_ite (fun z => absurd z (by decide)) (fun _ => ?_)
            obtain ⟨k1, k2⟩ := inv S3 f03
            refine ev_gc (q_removesKeys (d := d - 1) (A := A) (B := B) (I := e) (J := v) (V := V) (U := U) (by omega) rfl hA rfl hB rfl rfl k1 k2 hV hU ci.2.1 vl cm2.2.2 l3) (fun _ S4 q4 => ?_)
            obtain ⟨l4, f4⟩ := q4
            have f04 : FC (psP top) S S4 := fc_tr f03 (fc_mono f4 (fun c j z => Or.inl z))
            refine ev_gg (by first | omega | (constructor <;> omega)) ?_
            refine ev_gv ?_
            rw [Int.toNat_natCast]
            refine ev_gv ?_
            refine ev_gv ?_
            refine ev_gv ?_
            refine ev_gv ?_
            rw [show ((top + 1 : Nat) : Int) + 1 = ((top + 1 + 1 : Nat) : Int) by omega, show (e : Int) + 1 = ((e + 1 : Nat) : Int) by omega]
            have f5 : FC (fun c j => (c = 525 ∨ c = 526 ∨ c = 527) ∧ j = top + 1) S4 (gI (gI (gI S4 525 (top + 1) (e : Int)) 526 (top + 1) (v : Int)) 527 (top + 1) ((e + 1 : Nat) : Int)) := fc_tr (fc_gI ⟨Or.inl rfl, rfl⟩) (fc_tr (fc_gI ⟨Or.inr (Or.inl rfl), rfl⟩) (fc_gI ⟨Or.inr (Or.inr rfl), rfl⟩))
            have g25 : (gI (gI (gI S4 525 (top + 1) (e : Int)) 526 (top + 1) (v : Int)) 527 (top + 1) ((e + 1 : Nat) : Int)).1 525 (top + 1) = (e : Int) := by rw [gI_c (by decide), gI_c (by decide), gI_a]
            have g26 : (gI (gI (gI S4 525 (top + 1) (e : Int)) 526 (top + 1) (v : Int)) 527 (top + 1) ((e + 1 : Nat) : Int)).1 526 (top + 1) = (v : Int) := by rw [gI_c (by decide), gI_a]
            have g27 : (gI (gI (gI S4 525 (top + 1) (e : Int)) 526 (top + 1) (v : Int)) 527 (top + 1) ((e + 1 : Nat) : Int)).1 527 (top + 1) = ((e + 1 : Nat) : Int) := gI_a
            generalize gI (gI (gI S4 525 (top + 1) (e : Int)) 526 (top + 1) (v : Int)) 527 (top + 1) ((e + 1 : Nat) : Int) = S5 at f5 g25 g26 g27 ⊢
            have f05 : FC (psP top) S S5 := fc_tr f04 (fc_mono f5 (fun c j z => by first | exact ps_b z | exact ps_38 z | exact ps_do z | exact ps_t z | exact ps_t1 z | exact ps_7 z | exact ps_up z))
            obtain ⟨m1, m2⟩ := inv S5 f05
            refine ih e v (top + 1) (rmF V U (pth V e) v (kids V e) os1) S5 Q ci.2.1 vl cm2.2.1 cm2.2.2 dpe (by omega) m1 m2 (lsq_fr l4 f5 (fun j _ _ => by omega) (by omega) (by omega) (by omega)) g25 g26 g27 (fun S6 l6 f6 => ?_)
            refine ihK (e + nz V e) S6 _ eK (by omega) ⟨K1 ++ [e], by rw [hks]; simp⟩ ?_ ?_ ?_ l6 (fc_tr f05 (fc_mono f6 (fun c j z => by first | exact ps_b z | exact ps_38 z | exact ps_do z | exact ps_t z | exact ps_t1 z | exact ps_7 z | exact ps_up z))) hg
            · rw [fc_i f6 (by omega), fc_i f5 (by omega), fc_i f4 (by omega)]; exact d25
            · rw [fc_i f6 (by omega), fc_i f5 (by omega), fc_i f4 (by omega)]; exact d26
            · rw [fc_i f6 (by omega), fc_i f5 (by omega), fc_i f4 (by omega)]; exact d27
          · rw [if_neg cm2] at xe
            subst xe
            rw [btF_o cm2] at hg
            refine ev_gg (by decide) ?_
            refine ev_ite (fun _ => ?_) (fun z => absurd rfl z)
            exact ihK (e + nz V e) S3 _ eK (by omega) ⟨K1 ++ [e], by rw [hks]; simp⟩ d25 d26 d27 l3 f03 hg
    have z1 := zV I
    exact lp (kids V I) (I + 1) S os rfl (by omega) ⟨[], rfl⟩ c25 c26 c27 hs fc_rf rfl
theorem q_makesPatch {a b : Int} (hd : 13 ≤ d) (ha : a = (A : Int)) (hA : A < 40) (hb : b = (B : Int)) (hB : B < 40) (hL : LK S A V) (hM : LK S B U) (hV : DOC V) (hU : DOC U) : Ev (fun n => f_X12_makesPatch n d 0 S [a, b]) (fun _ S1 => LsQ 40 (ptS V U) S1 ∧ FC (psP 0) S S1) := by
  subst ha hb
  have l1 := hV.1.1.1.2.1
  have l2 := hU.1.1.1.2.1
  have p0 : pth V 0 = [] := rfl
  refine ev_up (fun n => e_X12_makesPatch_0) ?_
  unfold b_X12_makesPatch_0
  refine ev_gg (by first | omega | (constructor <;> omega)) ?_
  refine ev_gc (q_begin1 (d := d - 1) (k := 40) (K := 40) rfl (by decide)) (fun _ S3 q3 => ?_)
  obtain ⟨m3, f3⟩ := q3
  refine ev_gv ?_
  have f4 : FC (fun c j => c = 500 ∧ j = 38) S3 (gB S3 500 38 (decide ((0 : Int) = 1))) := fc_gB ⟨rfl, rfl⟩
  have e4 : (gB S3 500 38 (decide ((0 : Int) = 1))).2.1 500 38 = false := gB_a
  generalize gB S3 500 38 (decide ((0 : Int) = 1)) = S4 at f4 e4 ⊢
  refine ev_gc (q_added (d := d - 1) (K := 40) (by omega) rfl (by decide) (by decide) (mdr_fr m3 f4 (fun j _ _ => by omega) (by omega) (by omega))) (fun _ S5 q5 => ?_)
  obtain ⟨m5, f5, _⟩ := q5
  have f05 : FC (psP 0) S S5 := fc_tr (fc_mono f3 (fun c j z => by first | exact ps_b z | exact ps_38 z | exact ps_do z | exact ps_t z | exact ps_t1 z | exact ps_7 z | exact ps_up z)) (fc_tr (fc_mono f4 (fun c j z => by first | exact ps_b z | exact ps_38 z | exact ps_do z | exact ps_t z | exact ps_t1 z | exact ps_7 z | exact ps_up z)) (fc_mono f5 (fun c j z => by first | exact ps_b z | exact ps_38 z | exact ps_do z | exact ps_t z | exact ps_t1 z | exact ps_7 z | exact ps_up z)))
  have inv : ∀ S1, FC (psP 0) S S1 → LK S1 A V ∧ LK S1 B U := fun S1 f1 => ⟨lk_fr hL f1 (fun j _ _ => by omega) (by omega), lk_fr hM f1 (fun j _ _ => by omega) (by omega)⟩
  have ls5 : LsQ 40 (some []) S5 := ⟨by rw [fc_b f5 (by omega)]; exact e4, m5, fun t ht => by cases ht⟩
  have fin : ∀ S6, LsQ 40 (ptS V U) S6 → FC (psP 0) S S6 → Ev (fun n => f_X12_makesPatch n d 65 S6 [(A : Int), (B : Int), ((0 : Nat) : Int)]) (fun _ S1 => LsQ 40 (ptS V U) S1 ∧ FC (psP 0) S S1) := by
    intro S6 l6 f6
    refine ev_up (fun n => e_X12_makesPatch_65) ?_
    unfold b_X12_makesPatch_65
    refine ev_gg (by decide) ?_
    refine ev_ite (fun _ => ?_) (fun z => absurd (Int.le_refl _) z)
    exact ev_ret ⟨l6, f6⟩
  refine ev_gc (q_patches (d := d - 1) (A := A) (B := B) (I := 0) (J := 0) (V := V) (U := U) (by omega) rfl hA rfl hB rfl rfl (inv S5 f05).1 (inv S5 f05).2 hV hU (by omega) (by omega) ls5) (fun x S6 q6 => ?_)
  obtain ⟨xe, l6, f6⟩ := q6
  have f06 : FC (psP 0) S S6 := fc_tr f05 (fc_mono f6 (fun c j z => Or.inl z))
  by_cases cm : ¬ smJ 13 V 0 U ((0 : Nat) : Int) = true ∧ nk V 0 = 5 ∧ nk U 0 = 5
  · rw [if_pos cm] at xe
    subst xe
    obtain ⟨bm, bo⟩ := btF_m (f := 12) (os := some []) cm
    rw [bo] at l6
    refine ev_gg (by decide) ?_
    refine ev_ite (fun z => absurd z (by decide)) (fun _ => ?_)
    refine ev_gg (by decide) ?_
    refine ev_gv ?_
    refine ev_gv ?_
    refine ev_gv ?_
    rw [show (0 : Int).toNat = 0 from rfl]
    have f7 : FC (fun c j => (c = 525 ∨ c = 526 ∨ c = 527) ∧ j = 0) S6 (gI (gI (gI S6 525 0 0) 526 0 0) 527 0 1) := fc_tr (fc_gI ⟨Or.inl rfl, rfl⟩) (fc_tr (fc_gI ⟨Or.inr (Or.inl rfl), rfl⟩) (fc_gI ⟨Or.inr (Or.inr rfl), rfl⟩))
    have g25 : (gI (gI (gI S6 525 0 0) 526 0 0) 527 0 1).1 525 0 = 0 := by rw [gI_c (by decide), gI_c (by decide), gI_a]
    have g26 : (gI (gI (gI S6 525 0 0) 526 0 0) 527 0 1).1 526 0 = 0 := by rw [gI_c (by decide), gI_a]
    have g27 : (gI (gI (gI S6 525 0 0) 526 0 0) 527 0 1).1 527 0 = 1 := gI_a
    generalize gI (gI (gI S6 525 0 0) 526 0 0) 527 0 1 = S7 at f7 g25 g26 g27 ⊢
    have f07 : FC (psP 0) S S7 := fc_tr f06 (fc_mono f7 (fun c j z => by first | exact ps_b z | exact ps_38 z | exact ps_do z | exact ps_t z | exact ps_t1 z | exact ps_7 z | exact ps_up z))
    refine ev_gc (q_removesKeys (d := d - 1) (A := A) (B := B) (I := 0) (J := 0) (V := V) (U := U) (by omega) rfl hA rfl hB rfl rfl (inv S7 f07).1 (inv S7 f07).2 hV hU (by omega) (by omega) cm.2.2 (lsq_fr l6 f7 (fun j _ _ => by omega) (by omega) (by omega) (by omega))) (fun _ S8 q8 => ?_)
    obtain ⟨l8, f8⟩ := q8
    have f08 : FC (psP 0) S S8 := fc_tr f07 (fc_mono f8 (fun c j z => Or.inl z))
    refine pv_all hd hA hB hV hU 12 0 0 0 _ S8 _ (by omega) (by omega) cm.2.1 cm.2.2 (fun r => by rw [sg_self hV.1.1.1]; exact hV.2.1 r) (by decide) (inv S8 f08).1 (inv S8 f08).2 l8 (by rw [fc_i f8 (by omega)]; exact g25) (by rw [fc_i f8 (by omega)]; exact g26) (by rw [fc_i f8 (by omega)]; exact g27) (fun S9 l9 f9 => ?_)
    refine fin S9 ?_ (fc_tr f08 f9)
    have eb : ptS V U = btF V U (12 + 1) (pth V 0) 0 0 (some []) := rfl
    rw [eb, bm]
    exact l9
  · rw [if_neg cm] at xe
    subst xe
    refine ev_gg (by decide) ?_
    refine ev_ite (fun _ => ?_) (fun z => absurd rfl z)
    refine fin S6 ?_ f06
    have eb : ptS V U = btF V U (12 + 1) (pth V 0) 0 0 (some []) := rfl
    rw [eb, btF_o cm]
    exact l6
end RPQ
section RPU
variable {S0 S : GS} {T0 : List ND} {Ds : List (List ND)} {pg pp : List Int} {r : Int} {L : List Nat} {Q : List (List Int)} {C : List (Int × Int)} {d : Nat}
/-- the PATCH as a piece, if there is one -/
def ptT (V U : List ND) : Option (List ND) := match ptS V U with
  | none => none
  | some Os => if pOK (gpN (ndK 4) Os Os.length) then some (gpN (ndK 4) Os Os.length) else none
theorem ptT_doc {V U T : List ND} (hV : DOC V) (hU : DOC U) (e : ptT V U = some T) : DOC T := by
  unfold ptT at e
  cases hP : ptS V U with
  | none => rw [hP] at e; cases e
  | some Os =>
    rw [hP] at e
    dsimp only at e
    by_cases c : pOK (gpN (ndK 4) Os Os.length)
    · rw [if_pos c] at e
      have e := Option.some.inj e
      subst e
      rcases osk_tr (osk_pt hV.1 hU.1) Os hP with z | z
      · exact z
      · exact absurd c z
    · rw [if_neg c] at e
      cases e
theorem r_patch {a b : Int} (hd : 15 ≤ d) (ha : inr a) (hb : inr b) (h : RfS S0 T0 Ds pg pp r L Q C S) : Ev (fun n => f_X12_patch n d 0 S [a, b]) (fun x S1 => if hasD Ds a ∧ hasD Ds b then (match ptT (atD' Ds a) (atD' Ds b) with
    | none => S1.1 500 0 = 2 ∧ RfS S0 T0 Ds pg pp r L Q C S1
    | some T => if Ds.length < 40 then x = (Ds.length : Int) ∧ S1.1 500 0 = 0 ∧ RfS S0 T0 (Ds ++ [T]) pg pp r L Q C S1 else S1.1 500 0 = 2 ∧ RfS S0 T0 Ds pg pp r L Q C S1) else S1.1 500 0 = 1 ∧ RfS S0 T0 Ds pg pp r L Q C S1) := by
  have n4 := h.1.2.1
  have p22 : ∀ s : Int, s = (if hasD Ds a ∧ hasD Ds b then 1 else 0) → Ev (fun n => f_X12_patch n d 22 S [a, b, s]) (fun x S1 => if hasD Ds a ∧ hasD Ds b then (match ptT (atD' Ds a) (atD' Ds b) with
    | none => S1.1 500 0 = 2 ∧ RfS S0 T0 Ds pg pp r L Q C S1
    | some T => if Ds.length < 40 then x = (Ds.length : Int) ∧ S1.1 500 0 = 0 ∧ RfS S0 T0 (Ds ++ [T]) pg pp r L Q C S1 else S1.1 500 0 = 2 ∧ RfS S0 T0 Ds pg pp r L Q C S1) else S1.1 500 0 = 1 ∧ RfS S0 T0 Ds pg pp r L Q C S1) := by
    intro s hs
    refine ev_up (fun n => e_X12_patch_22) ?_
    unfold b_X12_patch_22
    refine ev_gg (by first | omega | (constructor <;> omega)) ?_
    refine fa_c hs h (fun c S1 t1 f1 h1 => ?_) (fun c S1 t1 f1 h1 => ?_)
    · refine ev_gg (by decide) ?_
      refine ev_ite (fun _ => ?_) (fun z => by omega)
      simp only [if_pos c]
      obtain ⟨e1, e2, e3, e4⟩ := r_at h1 c.1
      obtain ⟨g1, g2, g3, g4⟩ := r_at h1 c.2
      refine ev_gc (q_makesPatch (d := d - 1) (A := a.toNat) (B := b.toNat) (V := atD' Ds a) (U := atD' Ds b) (by omega) e1 e2 g1 g2 e3 g3 e4 g4) (fun _ S2 q2 => ?_)
      obtain ⟨l2, f2⟩ := q2
      have h2 := rf_sc h1 f2 (fun c j z => by omega)
      have t2 : S2.1 500 0 = 0 := by rw [fc_i f2 (by omega)]; exact t1
      have osk := osk_pt e4.1 g4.1
      have dD := fun T => ptT_doc (T := T) e4 g4
      unfold ptT at dD ⊢
      cases hP : ptS (atD' Ds a) (atD' Ds b) with
      | none =>
        rw [hP] at l2
        refine ev_gv ?_
        rw [l2.1]
        have bt : bi true = 1 := rfl
        rw [bt]
        refine ev_gg (by decide) ?_
        refine ev_ite (fun _ => ?_) (fun z => by omega)
        refine ev_up (fun n => e_X12_patch_68) ?_
        unfold b_X12_patch_68
        refine ev_gg (by first | omega | (constructor <;> omega)) ?_
        refine fa_c (p := False) (by rw [if_neg (fun z => z)]) h2 (fun z => z.elim) (fun _ S3 t3 f3 h3 => ?_)
        refine ev_gg (by decide) ?_
        refine ev_ite (fun z => by omega) (fun _ => ?_)
        exact ev_ret ⟨t3, h3⟩
      | some Os =>
        rw [hP] at l2 dD
        dsimp only at dD ⊢
        obtain ⟨l21, l22, l23⟩ := l2
        obtain ⟨o1, o2⟩ := osk Os hP
        have tr : TR (gpN (ndK 4) Os Os.length) ∧ PZL (gpN (ndK 4) Os Os.length) := ⟨tr_gp (by decide) (fun t ht => (l23 t ht).1), pzl_gp (fun t ht => (l23 t ht).2)⟩
        have em : mny (gpN (ndK 4) Os Os.length) = wZ (ndK 4) Os.length :: (Os.map mny).flatten := mny_gp (by decide) l23
        have gl : (gpN (ndK 4) Os Os.length).length ≤ 100 := by
          unfold gpN
          rw [List.length_cons]
          omega
        have sd : SDC (gpN (ndK 4) Os Os.length) := sdc_gp (by decide) ⟨nr_mk (by decide) (by decide) (by decide) (fun y hy => by cases hy), Or.inr (Or.inr (Or.inr (Or.inr ⟨by decide, rfl, rfl⟩)))⟩ (fun t ht => (o2 t ht).1) (fun z => absurd z (by decide)) (fun _ t ht => (o2 t ht).2) (by omega)
        refine ev_gv ?_
        rw [l21]
        have bt : bi false = 0 := rfl
        rw [bt]
        refine ev_gg (by decide) ?_
        refine ev_ite (fun z => by omega) (fun _ => ?_)
        refine ev_gc (q_isWhole (d := d - 1) (K := 40) (T := gpN (ndK 4) Os Os.length) (by omega) rfl (by decide) tr (fun _ y hy => (sd.2.1 y hy).1) (by rw [apM_some (by rw [mny_len]; exact gl), em]; exact l22)) (fun x S3 q3 => ?_)
        obtain ⟨x3, l3, f3⟩ := q3
        have h3 := rf_sc h2 f3 (fun c j z => by omega)
        have t3 : S3.1 500 0 = 0 := by rw [fc_i f3 (by omega)]; exact t2
        have p68 : ∀ (s0 : Int) (p : Prop) [Decidable p], s0 = (if p then 1 else 0) → (p ↔ pOK (gpN (ndK 4) Os Os.length) ∧ Ds.length < 40) → Ev (fun n => f_X12_patch n d 68 S3 [s0]) (fun x S1 => match (if pOK (gpN (ndK 4) Os Os.length) then some (gpN (ndK 4) Os Os.length) else none) with
            | none => S1.1 500 0 = 2 ∧ RfS S0 T0 Ds pg pp r L Q C S1
            | some T => if Ds.length < 40 then x = (Ds.length : Int) ∧ S1.1 500 0 = 0 ∧ RfS S0 T0 (Ds ++ [T]) pg pp r L Q C S1 else S1.1 500 0 = 2 ∧ RfS S0 T0 Ds pg pp r L Q C S1) := by
          intro s0 p _ hs0 hp
          refine ev_up (fun n => e_X12_patch_68) ?_
          unfold b_X12_patch_68
          refine ev_gg (by first | omega | (constructor <;> omega)) ?_
          refine fa_c (p := p) hs0 h3 (fun c3 S8 t8 f8 h8 => ?_) (fun c3 S8 t8 f8 h8 => ?_)
          · have c4 := hp.mp c3
            refine ev_gg (by decide) ?_
            refine ev_ite (fun _ => ?_) (fun z => by omega)
            have dT := dD (gpN (ndK 4) Os Os.length) (if_pos c4.1)
            refine ev_gc (r_keeps (d := d - 1) (K := 40) (by omega) rfl (by decide) h8 c4.2 (lk_fr (l3 c4.1) f8 (fun j _ _ => by omega) (by omega)) dT) (fun y S9 q9 => ?_)
            refine ev_ret ?_
            rw [if_pos c4.1]
            dsimp only
            rw [if_pos c4.2]
            exact ⟨q9.1, by rw [q9.2.1]; exact t8, q9.2.2⟩
          · refine ev_gg (by decide) ?_
            refine ev_ite (fun z => by omega) (fun _ => ?_)
            refine ev_ret ?_
            by_cases c4 : pOK (gpN (ndK 4) Os Os.length)
            · rw [if_pos c4]
              dsimp only
              rw [if_neg (fun z => c3 (hp.mpr ⟨c4, z⟩))]
              exact ⟨t8, h8⟩
            · rw [if_neg c4]
              exact ⟨t8, h8⟩
        rw [x3]
        by_cases cp : pOK (gpN (ndK 4) Os Os.length)
        · rw [if_pos cp] at p68 ⊢
          rw [if_pos cp]
          refine ev_gg (by decide) ?_
          refine ev_ite (fun z => by omega) (fun _ => ?_)
          refine ev_gv ?_
          rw [h3.1.1]
          refine ev_gg (by first | omega | (constructor <;> omega)) ?_
          refine ev_ite (fun y => ?_) (fun y => ?_)
          · exact p68 0 False (by rw [if_neg (fun z => z)]) ⟨fun z => z.elim, fun z => by omega⟩
          · exact p68 1 True (by rw [if_pos trivial]) ⟨fun _ => ⟨cp, by omega⟩, fun _ => trivial⟩
        · rw [if_neg cp] at p68 ⊢
          rw [if_neg cp]
          refine ev_gg (by decide) ?_
          refine ev_ite (fun _ => ?_) (fun z => by omega)
          exact p68 0 False (by rw [if_neg (fun z => z)]) ⟨fun z => z.elim, fun z => cp z.1⟩
    · refine ev_gg (by decide) ?_
      refine ev_ite (fun z => by omega) (fun _ => ?_)
      simp only [if_neg c]
      exact ev_ret ⟨t1, h1⟩
  refine ev_up (fun n => e_X12_patch_0) ?_
  unfold b_X12_patch_0
  refine ev_gg (by first | omega | (constructor <;> omega)) ?_
  refine ev_gcr (r_isDoc (d := d - 1) (by omega) ha h) ?_
  by_cases c : hasD Ds a
  · rw [if_pos c]
    refine ev_gg (by decide) ?_
    refine ev_ite (fun z => by omega) (fun _ => ?_)
    refine ev_gcr (r_isDoc (d := d - 1) (by omega) hb h) ?_
    by_cases c2 : hasD Ds b
    · rw [if_pos c2]
      refine ev_gg (by decide) ?_
      refine ev_ite (fun z => by omega) (fun _ => ?_)
      exact p22 1 (by rw [if_pos ⟨c, c2⟩])
    · rw [if_neg c2]
      refine ev_gg (by decide) ?_
      refine ev_ite (fun _ => ?_) (fun z => by omega)
      exact p22 0 (by rw [if_neg (fun z => c2 z.2)])
  · rw [if_neg c]
    refine ev_gg (by decide) ?_
    refine ev_ite (fun _ => ?_) (fun z => by omega)
    exact p22 0 (by rw [if_neg (fun z => c z.1)])
end RPU
