/-! THE REFERENCE: writing VALUES -/
def scW (T : List ND) : List Int := if rk T < 4 then wsc T else [if rk T = 5 then 123 else 91, if rk T = 5 then 125 else 93]
theorem scW_wr {T : List ND} {f : Nat} {w : Int} {ind : Nat} (hk : kd T = []) (hd : dpS f T ≤ (f : Int)) : wrF f w ind T = scW T := by
  unfold scW
  cases f with
  | zero =>
    unfold dpS at hd
    by_cases c : 4 ≤ rk T
    · rw [if_pos c] at hd; omega
    · rw [if_pos (by omega)]; rfl
  | succ f =>
    unfold wrF
    by_cases c : rk T < 4
    · rw [if_pos c, if_pos c]
    · rw [if_neg c, if_neg c]
      have e1 : koS w T = [] := by
        unfold koS
        rw [hk]
        split <;> rfl
      have e2 : wli w T = false := by
        unfold wli
        rw [hk]
        simp
      rw [e1, e2]
      unfold wbd wend
      by_cases c5 : rk T = 5
      · simp [c5]
      · simp [c5]
theorem wr_leaf {T : List ND} {f : Nat} {w : Int} {ind : Nat} (h : rk T < 4) : wrF f w ind T = wsc T := by
  cases f with
  | zero => rfl
  | succ f => unfold wrF; rw [if_pos h]
theorem hd_cons {t : List Int} (h : hdI t = 45) : t = 45 :: t.tail := by
  cases t with
  | nil => cases h
  | cons a r => show a :: r = 45 :: r; rw [show a = 45 from h]
theorem nb_r {t : List Int} {p : Int} (h : NbOK t p) : -99 ≤ p ∧ p ≤ 99 := by
  rcases h with ⟨_, h⟩ | ⟨g, F, _, _, _, _, _, _, a, b⟩
  · omega
  · exact ⟨a, b⟩
section RWR
variable {S : GS} {d t K : Nat} {V : List ND} {l : List Int}
theorem q_putsScalar {a k i : Int} {I : Nat} (hd : 4 ≤ d) (ha : a = (t : Int)) (ht : t < 2) (hk : k = (K : Int)) (hK : K < 48) (hi : i = (I : Int)) (hv : LK S K V) (hV : PZL V) (hI : I < V.length) (hn : VN (V.getD I nd0)) (h : OuS S t l) (hl : l.length + (scW (sg V I)).length ≤ 38900) : Ev (fun n => f_X12_putsScalar n d 0 S [a, k, i]) (fun _ S1 => OuS S1 t (l ++ scW (sg V I)) ∧ FC (ouP t) S S1) := by
  subst ha hk hi
  have l1 := hv.2.1
  have hz := pz_l hV
  have rkk : rk (sg V I) = nk V I := rk_sg hI (hz I)
  have rpp : rp (sg V I) = np V I := rp_sg hI (hz I)
  have rtt : rt (sg V I) = nt V I := rt_sg hI (hz I)
  have c := (hv.2.2.1 I hI).1
  have nr := hv.2.2.2 _ (nd_mem hI)
  have kr : 0 ≤ nk V I ∧ nk V I ≤ 5 := ⟨nr.1, nr.2.1⟩
  have e0 : S.1 501 (6161 * K + 61 * I) = nk V I := c.1
  have tx := lk_txt hv hI
  unfold scW wsc at hl ⊢
  rw [rkk, rpp, rtt] at hl ⊢
  refine ev_up (fun n => e_X12_putsScalar_0) ?_
  unfold b_X12_putsScalar_0
  refine ev_gg (by first | omega | (constructor <;> omega)) ?_
  refine ev_gcr (q_at) ?_
  refine ev_gg (by first | omega | (constructor <;> omega)) ?_
  refine ev_gv ?_
  rw [show ((101 * (K : Int) + (I : Int)) * 61).toNat = 6161 * K + 61 * I by omega, e0]
  refine ev_gg (by first | omega | (constructor <;> omega)) ?_
  refine ev_ite (fun z => ?_) (fun z => ?_)
  · refine ev_ite (fun z1 => ?_) (fun z1 => ?_)
    · refine ev_ite (fun z3 => ?_) (fun z3 => ?_)
      · refine ev_ite (fun z2 => ?_) (fun z2 => ?_)
        · rw [if_neg (by omega)] at hl ⊢
          have p219 : ∀ (s : Int) (q : Int), 0 ≤ s ∧ s < 256 → (if nk V I ≠ 4 then (125 : Int) else 93) = q → Ev (fun n => f_X12_putsScalar n d 219 S [(t : Int), nk V I, s, (t : Int)]) (fun _ S1 => OuS S1 t (l ++ [s, q]) ∧ FC (ouP t) S S1) := by
            intro s q hs hq
            subst hq
            refine ev_up (fun n => e_X12_putsScalar_219) ?_
            unfold b_X12_putsScalar_219
            refine ev_gg (by first | omega | (constructor <;> omega)) ?_
            refine pu_c rfl ht h hs (by omega) (fun y S2 h2 f2 => ?_)
            refine ev_gg (by first | omega | (constructor <;> omega)) ?_
            refine ev_ite (fun w => ?_) (fun w => ?_)
            · rw [if_pos w]
              refine pu_c rfl ht h2 (by decide) (by rw [List.length_append, List.length_singleton]; omega) (fun y S3 h3 f3 => ?_)
              refine ev_ret ⟨?_, fc_tr f2 f3⟩
              rw [List.append_assoc] at h3
              exact h3
            · rw [if_neg w]
              refine pu_c rfl ht h2 (by decide) (by rw [List.length_append, List.length_singleton]; omega) (fun y S3 h3 f3 => ?_)
              refine ev_ret ⟨?_, fc_tr f2 f3⟩
              rw [List.append_assoc] at h3
              exact h3
          refine ev_ite (fun w => ?_) (fun w => ?_)
          · rw [if_pos (by omega), if_pos (by omega)]
            exact p219 123 125 (by decide) (by rw [if_pos w])
          · rw [if_neg (by omega), if_neg (by omega)]
            exact p219 91 93 (by decide) (by rw [if_neg w])
        · have k2 : nk V I = 2 := by omega
          rw [if_pos (by omega), if_neg (by omega), if_neg (by omega), if_pos k2] at hl ⊢
          have x2 : (V.getD I nd0).1 = 2 := k2
          have nb : NbOK (nt V I) (np V I) := by
            rcases hn with q | q | q | q | q
            · have : nk V I = 0 := q.1; omega
            · have : nk V I = 1 := q.1; omega
            · exact q.2
            · have : nk V I = 3 := q.1; omega
            · have : 4 ≤ nk V I := q.1; omega
          have pr := nb_r nb
          have ei : isN (V.getD I nd0) = if hdI (nt V I) = 45 then -1 else if hdI (nt V I) = 48 ∨ nt V I = [] then 0 else 1 := by unfold isN; rw [if_pos x2]; rfl
          have ep : pwN (V.getD I nd0) = np V I := by unfold pwN; rw [if_pos x2]; rfl
          have es : (if isN (V.getD I nd0) < 0 then [45] else []) ++ sgN (V.getD I nd0) = nt V I := by
            rw [ei]
            unfold sgN
            by_cases q : hdI (nt V I) = 45
            · rw [if_pos q, if_pos (by decide), if_pos ⟨x2, q⟩]
              exact (hd_cons q).symm
            · rw [if_neg q, if_neg (by split <;> decide), if_neg (fun z => q z.2)]
              rfl
          have c5 := c.2.2.2.2.1
          have c6 := c.2.2.2.2.2.1
          rw [ep] at c6
          have ir : -1 ≤ isN (V.getD I nd0) ∧ isN (V.getD I nd0) ≤ 1 := by
            rw [ei]
            split
            · omega
            · split <;> omega
          unfold wnb at hl ⊢
          rw [List.length_append] at hl
          have wn := wnum_len (np V I)
          have p127 : ∀ (r : List Int) (u : Nat) (w : List Int) (S1 : GS), (sgN (V.getD I nd0)).drop u = r → u ≤ (sgN (V.getD I nd0)).length → OuS S1 t w → w.length + r.length + 6 ≤ 39000 → FC (ouP t) S S1 → Ev (fun n => f_X12_putsScalar n d 127 S1 [(t : Int), ((6161 * K + 61 * I : Nat) : Int), (u : Int)]) (fun _ S2 => OuS S2 t (w ++ r ++ (if np V I = 0 then [] else [101] ++ wnum (np V I))) ∧ FC (ouP t) S S2) := by
            intro r
            induction r with
            | nil =>
              intro u w S1 hu hul h1 hw hf
              have := drop_nl hu
              refine ev_up (fun n => e_X12_putsScalar_127) ?_
              unfold b_X12_putsScalar_127
              refine ev_gv ?_
              refine ev_gg (by first | omega | (constructor <;> omega)) ?_
              refine ev_gv ?_
              rw [show (((6161 * K + 61 * I : Nat) : Int) + 18).toNat = 6161 * K + 61 * I + 18 by omega, fc_i hf (by omega), c.2.2.2.1]
              refine ev_gg (by first | omega | (constructor <;> omega)) ?_
              refine ev_gg (by first | omega | (constructor <;> omega)) ?_
              refine ev_ite (fun _ => ?_) (fun z => by omega)
              refine ev_gv ?_
              refine ev_gg (by first | omega | (constructor <;> omega)) ?_
              refine ev_gv ?_
              rw [show (((6161 * K + 61 * I : Nat) : Int) + 20).toNat = 6161 * K + 61 * I + 20 by omega, fc_i hf (by omega), c6]
              refine ev_gg (by first | omega | (constructor <;> omega)) ?_
              rw [List.append_nil]
              refine ev_ite (fun q => ?_) (fun q => ?_)
              · rw [if_pos q, List.append_nil]
                exact ev_ret ⟨h1, hf⟩
              · rw [if_neg q]
                refine ev_gg (by first | omega | (constructor <;> omega)) ?_
                refine pu_c rfl ht h1 (by decide) (by omega) (fun y S2 h2 f2 => ?_)
                refine ev_gv ?_
                refine ev_gg (by first | omega | (constructor <;> omega)) ?_
                refine ev_gv ?_
                rw [show (((6161 * K + 61 * I : Nat) : Int) + 20).toNat = 6161 * K + 61 * I + 20 by omega, fc_i (fc_tr hf f2) (by omega), c6]
                refine ev_gc (q_putsInt (d := d - 1) (by omega) rfl ht pr h2 (by rw [List.length_append, List.length_singleton]; omega)) (fun _ S3 q3 => ?_)
                refine ev_ret ⟨?_, fc_tr hf (fc_tr f2 q3.2)⟩
                rw [← List.append_assoc]
                exact q3.1
            | cons x r ih =>
              intro u w S1 hu hul h1 hw hf
              obtain ⟨l1', g1, r1⟩ := drop_hd hu
              have l3 := drop_ln hu hul
              have xr := tx.2 x (by rw [← g1]; exact getD_in l1')
              have cs := c.2.2.2.2.2.2 u l1'
              rw [g1] at cs
              refine ev_up (fun n => e_X12_putsScalar_127) ?_
              unfold b_X12_putsScalar_127
              refine ev_gv ?_
              refine ev_gg (by first | omega | (constructor <;> omega)) ?_
              refine ev_gv ?_
              rw [show (((6161 * K + 61 * I : Nat) : Int) + 18).toNat = 6161 * K + 61 * I + 18 by omega, fc_i hf (by omega), c.2.2.2.1]
              refine ev_gg (by first | omega | (constructor <;> omega)) ?_
              refine ev_gg (by first | omega | (constructor <;> omega)) ?_
              refine ev_ite (fun z => by omega) (fun _ => ?_)
              refine ev_gv ?_
              refine ev_gv ?_
              refine ev_gg (by first | omega | (constructor <;> omega)) ?_
              refine ev_gv ?_
              rw [show (((6161 * K + 61 * I : Nat) : Int) + 21 + (u : Int)).toNat = 6161 * K + 61 * I + 21 + u by omega, fc_i hf (by omega), cs]
              refine ev_gg (by first | omega | (constructor <;> omega)) ?_
              rw [List.length_cons] at hw
              refine pu_c rfl ht h1 xr (by omega) (fun y S2 h2 f2 => ?_)
              refine ev_gv ?_
              rw [show (u : Int) + 1 = ((u + 1 : Nat) : Int) by omega]
              have := ih (u + 1) _ S2 r1 (by omega) h2 (by rw [List.length_append, List.length_singleton]; omega) (fc_tr hf f2)
              rw [List.append_assoc w] at this
              exact this
          have sl : (nt V I).length = (if isN (V.getD I nd0) < 0 then 1 else 0) + (sgN (V.getD I nd0)).length := by
            have := congrArg List.length es
            rw [List.length_append] at this
            rw [← this]
            split <;> rfl
          refine ev_gv ?_
          refine ev_gg (by first | omega | (constructor <;> omega)) ?_
          refine ev_gv ?_
          rw [show ((101 * (K : Int) + (I : Int)) * 61 + 19).toNat = 6161 * K + 61 * I + 19 by omega, c5]
          refine ev_gg (by first | omega | (constructor <;> omega)) ?_
          rw [show (101 * (K : Int) + (I : Int)) * 61 = ((6161 * K + 61 * I : Nat) : Int) by omega]
          refine ev_ite (fun q => ?_) (fun q => ?_)
          · rw [if_neg (by omega)] at es sl
            have := p127 _ 0 l S rfl (Nat.zero_le _) h (by rw [List.drop_zero]; omega) fc_rf
            rw [List.drop_zero] at this
            rw [← es, List.nil_append, ← List.append_assoc]
            exact this
          · rw [if_pos (by omega)] at es sl
            refine pu_c rfl ht h (by decide) (by omega) (fun y S2 h2 f2 => ?_)
            have := p127 _ 0 _ S2 rfl (Nat.zero_le _) h2 (by rw [List.drop_zero, List.length_append, List.length_singleton]; omega) f2
            rw [List.drop_zero, List.append_assoc l] at this
            rw [← es, ← List.append_assoc]
            exact this
      · have k3 : nk V I = 3 := by omega
        have x3 : (V.getD I nd0).1 ≠ 2 := fun e => by have : nk V I = 2 := e; omega
        rw [if_pos (by omega), if_neg (by omega), if_neg (by omega), if_neg (by omega)] at hl ⊢
        have es : sgN (V.getD I nd0) = nt V I := sgN_t x3
        refine ev_gv ?_
        refine ev_gv ?_
        refine ev_gg (by first | omega | (constructor <;> omega)) ?_
        refine ev_gv ?_
        rw [show ((101 * (K : Int) + (I : Int)) * 61 + 18).toNat = 6161 * K + 61 * I + 18 by omega, c.2.2.2.1]
        have c7 := c.2.2.2.2.2.2
        rw [es] at c7 tx ⊢
        refine ev_gc (q_putsQuoted (d := d - 1) (A := 6161 * K + 61 * I + 21) (q := nt V I) (by omega) rfl ht (by omega) rfl (by omega) c7 tx.2 h (by omega)) (fun _ S2 q2 => ?_)
        exact ev_ret q2
    · have k1 : nk V I = 1 := by omega
      have x1 : (V.getD I nd0).1 = 1 := k1
      have ei : isN (V.getD I nd0) = np V I := by
        unfold isN
        rw [if_neg (by omega), if_pos x1]
        rfl
      have c5 := c.2.2.2.2.1
      rw [ei] at c5
      have pr : -200 ≤ np V I ∧ np V I ≤ 200 := ⟨nr.2.2.2.2.1, nr.2.2.2.2.2.1⟩
      rw [if_pos (by omega), if_neg (by omega), if_pos k1] at hl ⊢
      refine ev_gv ?_
      refine ev_gg (by first | omega | (constructor <;> omega)) ?_
      refine ev_gv ?_
      rw [show ((101 * (K : Int) + (I : Int)) * 61 + 19).toNat = 6161 * K + 61 * I + 19 by omega, c5]
      refine ev_gg (by first | omega | (constructor <;> omega)) ?_
      refine ev_ite (fun q => ?_) (fun q => ?_)
      · rw [if_neg q, ← lw_false]
        refine ev_gc (q_putsLetters (d := d - 1) (by omega) rfl ht (by decide) h (by omega)) (fun _ S2 q2 => ?_)
        exact ev_ret q2
      · rw [if_pos (by omega), ← lw_true]
        refine ev_gc (q_putsLetters (d := d - 1) (by omega) rfl ht (by decide) h (by omega)) (fun _ S2 q2 => ?_)
        exact ev_ret q2
  · have k0 : nk V I = 0 := by omega
    rw [if_pos (by omega), if_pos k0, ← lw_null]
    refine ev_gc (q_putsLetters (d := d - 1) (by omega) rfl ht (by decide) h (by omega)) (fun _ S2 q2 => ?_)
    exact ev_ret q2
abbrev wtF (t top : Nat) : Nat → Nat → Prop := fun c j => ouP t c j ∨ (c = 513 ∧ top ≤ j) ∨ (c = 515 ∧ top ≤ j + 1)
abbrev wtG (t top : Nat) : Nat → Nat → Prop := fun c j => ouP t c j ∨ (c = 513 ∧ top ≤ j) ∨ (c = 515 ∧ top ≤ j)
abbrev wlB (w : Int) : Bool := decide (w = 2)
theorem wli_ne {w : Int} {g : Nat} (hV : TR V ∧ PZL V) (hg : g < V.length) (hk : kids V g ≠ []) : wli w (sg V g) = wlB w := by
  unfold wli
  rw [kd_sg hV.2 hV.1.1 hg]
  cases e : kids V g with
  | nil => exact absurd e hk
  | cons a r => simp
theorem q_group (hd : 6 ≤ d) (ht : t < 2) (hK : K < 48) (hv : SDC V) (w : Int) (hw : 0 ≤ w ∧ w ≤ 2) : ∀ (f g top : Nat) (S : GS) (l : List Int) (Q : Int → GS → Prop), g < V.length → 4 ≤ nk V g → kids V g ≠ [] → 1 ≤ top → top + f ≤ 14 → (∀ r, dpS r (sg V g) ≤ (f : Int) + 1) → LK S K V → OuS S t l → S.1 513 (top - 1) = (g : Int) → S.1 515 (top - 1) = -1 → l.length + (wbd (wlB w) (decide (nk V g = 5)) (top - 1) (wrF f w top) true (koS w (sg V g)) ++ wend (wlB w) (decide (nk V g = 5)) (top - 1)).length ≤ 38900 → (∀ S1, OuS S1 t (l ++ (wbd (wlB w) (decide (nk V g = 5)) (top - 1) (wrF f w top) true (koS w (sg V g)) ++ wend (wlB w) (decide (nk V g = 5)) (top - 1))) → FC (wtF t top) S S1 → Ev (fun n => f_X12_writes n d 64 S1 [(t : Int), (K : Int), w, ((top - 1 : Nat) : Int)]) Q) → Ev (fun n => f_X12_writes n d 64 S [(t : Int), (K : Int), w, (top : Int)]) Q := by
  have hV := hv.1
  have hz := pz_l hV.2
  intro f
  induction f using Nat.strongRecOn with
  | _ f ih =>
  intro g top S l Q hg h4 hkn ht1 htf hdp hL hO h513 h515 hlen nx
  have l1 := hL.2.1
  have nrg := hL.2.2.2 _ (nd_mem hg)
  have krg : 0 ≤ nk V g ∧ nk V g ≤ 5 := ⟨nrg.1, nrg.2.1⟩
  have kdg := kd_sg hV.2 hV.1.1 hg
  have rkg := rk_sg hg (hz g)
  have ord := ord_ch hV l1 hg w
  have nxw : ∀ q, nxW V g (if w = 1 then 1 else 0) q = nxW V g w q := fun q => by
    unfold nxW
    by_cases c : w = 1
    · rw [if_pos c, c]
    · rw [if_neg c, if_neg (show ¬ (nk V g = 5 ∧ (0 : Int) = 1) by omega), if_neg (show ¬ (nk V g = 5 ∧ w = 1) from fun z => c z.2)]
  generalize hTT : l ++ (wbd (wlB w) (decide (nk V g = 5)) (top - 1) (wrF f w top) true (koS w (sg V g)) ++ wend (wlB w) (decide (nk V g = 5)) (top - 1)) = TT at nx
  have lTT : TT.length ≤ 38900 := by
    rw [← hTT, List.length_append]
    exact hlen
  have lkS : ∀ S2, FC (wtF t top) S S2 → LK S2 K V := fun S2 hf => lk_fr hL hf (fun j _ _ => by omega) (by omega)
  have s254 : ∀ (c : Nat) (S2 : GS) (l2 : List Int), c ∈ kids V g → OuS S2 t l2 → FC (wtF t top) S S2 → (l2 ++ wrF f w top (sg V c)).length ≤ 38900 → (∀ S3, OuS S3 t (l2 ++ wrF f w top (sg V c)) → FC (wtG t top) S2 S3 → Ev (fun n => f_X12_writes n d 64 S3 [(t : Int), (K : Int), w, (top : Int)]) Q) → Ev (fun n => f_X12_writes n d 254 S2 [(t : Int), (K : Int), w, (top : Int), (c : Int)]) Q := by
    intro c S2 l2 hc h2 hf2 hl2 nx2
    have ck := kid_in3 hV.1.1 hz hg hc
    have hL2 := lkS S2 hf2
    have ckl := kids_le hV.1.1 hz (g := c)
    have wc := hV.1.1.1 c ck.2.1
    have kdc := kd_sg hV.2 hV.1.1 ck.2.1
    have rkc := rk_sg ck.2.1 (hz c)
    have dpc : ∀ r, dpS r (sg V c) ≤ (f : Int) := dp_kd hdp (by rw [rkg]; exact h4) (by rw [kdg]; exact List.mem_map.mpr ⟨c, hc, rfl⟩)
    have nrc := hL.2.2.2 _ (nd_mem ck.2.1)
    have krc : 0 ≤ nk V c ∧ nk V c ≤ 5 := ⟨nrc.1, nrc.2.1⟩
    refine ev_up (fun n => e_X12_writes_254) ?_
    unfold b_X12_writes_254
    refine ev_gg (by first | omega | (constructor <;> omega)) ?_
    refine ev_gcr (q_manyL (d := d - 1) (K := K) (I := c) (by omega) rfl hK rfl hL2 ck.2.1) ?_
    refine ev_gg (by first | omega | (constructor <;> omega)) ?_
    refine ev_ite (fun z => ?_) (fun z => ?_)
    · have ckn : kids V c ≠ [] := fun e => by rw [e] at z; exact z rfl
      have c4 : 4 ≤ nk V c := by
        by_cases q : nk V c < 4
        · have := hV.1.1.2.2 c ck.2.1 q; omega
        · omega
      obtain ⟨f', rfl⟩ : ∃ f', f = f' + 1 := by
        have h1 := dpc 0
        unfold dpS at h1
        rw [rkc, if_pos c4] at h1
        exact ⟨f - 1, by omega⟩
      have ew : wrF (f' + 1) w top (sg V c) = [if nk V c = 5 then 123 else 91] ++ (wbd (wlB w) (decide (nk V c = 5)) top (wrF f' w (top + 1)) true (koS w (sg V c)) ++ wend (wlB w) (decide (nk V c = 5)) top) := by
        show (if rk (sg V c) < 4 then _ else _) = _
        rw [rkc, if_neg (by omega), wli_ne hV ck.2.1 ckn, List.append_assoc]
      rw [ew] at hl2 nx2
      have p296 : ∀ (s : Int), 0 ≤ s ∧ s < 256 → (if nk V c = 5 then (123 : Int) else 91) = s → Ev (fun n => f_X12_writes n d 296 S2 [(t : Int), (K : Int), w, (top : Int), (c : Int), s, (t : Int)]) Q := by
        intro s hs es
        rw [es] at hl2 nx2
        rw [← List.append_assoc, List.length_append] at hl2
        refine ev_up (fun n => e_X12_writes_296) ?_
        unfold b_X12_writes_296
        refine ev_gg (by first | omega | (constructor <;> omega)) ?_
        have l22 : (l2 ++ [s]).length = l2.length + 1 := by rw [List.length_append, List.length_singleton]
        refine pu_c rfl ht h2 hs (by omega) (fun y S3 h3 f3 => ?_)
        refine ev_gg (by first | omega | (constructor <;> omega)) ?_
        refine ev_gv ?_
        refine ev_gv ?_
        refine ev_gv ?_
        rw [Int.toNat_natCast, show (top : Int) + 1 = ((top + 1 : Nat) : Int) by omega]
        have f5 : FC (wtG t top) S2 (gI (gI S3 513 top c) 515 top (-1)) := fc_tr (fc_mono f3 (fun c j z => Or.inl z)) (fc_tr (fc_gI (Or.inr (Or.inl ⟨rfl, by omega⟩))) (fc_gI (Or.inr (Or.inr ⟨rfl, by omega⟩))))
        have f5' : FC (wtF t top) S2 (gI (gI S3 513 top c) 515 top (-1)) := fc_mono f5 (fun c j z => by omega)
        have o5 : OuS (gI (gI S3 513 top c) 515 top (-1)) t (l2 ++ [s]) := ou_fr (ou_fr h3 (fc_gI (P := fun c j => c = 513) rfl) (by decide) (fun j _ _ => by decide)) (fc_gI (P := fun c j => c = 515) rfl) (by decide) (fun j _ _ => by decide)
        refine ih f' (by omega) c (top + 1) _ (l2 ++ [s]) Q ck.2.1 c4 ckn (by omega) (by omega) (fun r => by have := dpc r; omega) (lkS _ (fc_tr hf2 f5')) o5 (by rw [Nat.add_sub_cancel, gI_c (by decide), gI_a]) (by rw [Nat.add_sub_cancel, gI_a]) (by rw [Nat.add_sub_cancel]; omega) (fun S6 h6 f6 => ?_)
        rw [Nat.add_sub_cancel] at h6 ⊢
        refine nx2 S6 ?_ (fc_tr f5 (fc_mono f6 (fun c j z => by omega)))
        rw [List.append_assoc] at h6
        exact h6
      refine ev_gcr (q_kindL (d := d - 1) (K := K) (I := c) (by omega) rfl hK rfl hL2 ck.2.1) ?_
      refine ev_gg (by first | omega | (constructor <;> omega)) ?_
      refine ev_ite (fun q => ?_) (fun q => ?_)
      · exact p296 123 (by decide) (by rw [if_pos (by omega)])
      · exact p296 91 (by decide) (by rw [if_neg (by omega)])
    · have ckn : kids V c = [] := List.length_eq_zero_iff.mp (by omega)
      have e0 : wrF f w top (sg V c) = scW (sg V c) := scW_wr (by rw [kdc, ckn]; rfl) (dpc f)
      rw [e0] at hl2 nx2
      rw [List.length_append] at hl2
      refine ev_gc (q_putsScalar (d := d - 1) (K := K) (I := c) (by omega) rfl ht rfl hK rfl hL2 hV.2 ck.2.1 (hv.2.1 _ (nd_mem ck.2.1)).2 h2 hl2) (fun _ S3 q3 => ?_)
      exact nx2 S3 q3.1 (fc_mono q3.2 (fun c j z => Or.inl z))
  have s201 : ∀ (c : Nat) (S2 : GS) (l2 : List Int), c ∈ kids V g → OuS S2 t l2 → FC (wtF t top) S S2 → (l2 ++ (if nk V g = 5 then wq (nq V c) ++ (if w = 2 then sx 16 else sx 17) else []) ++ wrF f w top (sg V c)).length ≤ 38900 → (∀ S3, OuS S3 t (l2 ++ (if nk V g = 5 then wq (nq V c) ++ (if w = 2 then sx 16 else sx 17) else []) ++ wrF f w top (sg V c)) → FC (wtG t top) S2 S3 → Ev (fun n => f_X12_writes n d 64 S3 [(t : Int), (K : Int), w, (top : Int)]) Q) → Ev (fun n => f_X12_writes n d 201 S2 [(t : Int), (K : Int), w, (top : Int), (g : Int), (c : Int)]) Q := by
    intro c S2 l2 hc h2 hf2 hl2 nx2
    have ck := kid_in3 hV.1.1 hz hg hc
    have hL2 := lkS S2 hf2
    refine ev_up (fun n => e_X12_writes_201) ?_
    unfold b_X12_writes_201
    refine ev_gg (by first | omega | (constructor <;> omega)) ?_
    refine ev_gcr (q_kindL (d := d - 1) (K := K) (I := g) (by omega) rfl hK rfl hL2 hg) ?_
    refine ev_gg (by first | omega | (constructor <;> omega)) ?_
    refine ev_ite (fun z => ?_) (fun z => ?_)
    · rw [if_neg z, List.append_nil] at hl2 nx2
      exact s254 c S2 l2 hc h2 hf2 hl2 nx2
    · have k5 : nk V g = 5 := by omega
      rw [if_pos k5] at hl2 nx2
      have ky := lk_key hL2 ck.2.1
      have kl12 : (nq V c).length ≤ 12 := ky.1
      have lsx : (if w = 2 then sx 16 else sx 17).length ≤ 2 ∧ 1 ≤ (if w = 2 then sx 16 else sx 17).length := by
        split
        · rw [sx_16]; decide
        · rw [sx_17]; decide
      rw [List.length_append, List.length_append, List.length_append] at hl2
      refine ev_gcr (q_at) ?_
      refine ev_gv ?_
      refine ev_gcr (q_keysL (d := d - 1) (K := K) (I := c) (by omega) rfl hK rfl hL2 ck.2.1) ?_
      refine ev_gc (q_putsQuoted (d := d - 1) (A := 6161 * K + 61 * c + 6) (q := nq V c) (by omega) rfl ht (by omega) rfl (by omega) (hL2.2.2.1 c ck.2.1).1.2.2.1 ky.2 h2 (by omega)) (fun _ S3 q3 => ?_)
      obtain ⟨h3, f3⟩ := q3
      refine pu_c rfl ht h3 (by decide) (by rw [List.length_append]; omega) (fun y S4 h4' f4 => ?_)
      have f4' : FC (wtG t top) S2 S4 := fc_tr (fc_mono f3 (fun c j z => Or.inl z)) (fc_mono f4 (fun c j z => Or.inl z))
      have f4'' : FC (wtF t top) S S4 := fc_tr hf2 (fc_mono f4' (fun c j z => by omega))
      refine ev_gg (by first | omega | (constructor <;> omega)) ?_
      refine ev_ite (fun q => ?_) (fun q => ?_)
      · rw [if_neg q, sx_17] at nx2 hl2
        refine s254 c S4 _ hc h4' f4'' (by simp only [List.length_append, List.length_cons, List.length_nil] at hl2 ⊢; omega) (fun S5 h5 f5 => nx2 S5 ?_ (fc_tr f4' f5))
        simp only [List.append_assoc] at h5 ⊢
        exact h5
      · have q2 : w = 2 := by omega
        rw [if_pos q2, sx_16] at nx2 hl2
        refine pu_c rfl ht h4' (by decide) (by simp only [List.length_append, List.length_cons, List.length_nil] at hl2 ⊢; omega) (fun y S5 h5 f5 => ?_)
        have f5' : FC (wtG t top) S2 S5 := fc_tr f4' (fc_mono f5 (fun c j z => Or.inl z))
        refine s254 c S5 _ hc h5 (fc_tr hf2 (fc_mono f5' (fun c j z => by omega))) (by simp only [List.length_append, List.length_cons, List.length_nil] at hl2 ⊢; omega) (fun S6 h6 f6 => nx2 S6 ?_ (fc_tr f5' f6))
        simp only [List.append_assoc, List.cons_append, List.nil_append] at h6 ⊢
        exact h6
  have s177 : ∀ (c : Nat) (S2 : GS) (l2 : List Int), c ∈ kids V g → OuS S2 t l2 → FC (wtF t top) S S2 → (l2 ++ ((if w = 2 then wln top else []) ++ (if nk V g = 5 then wq (nq V c) ++ (if w = 2 then sx 16 else sx 17) else [])) ++ wrF f w top (sg V c)).length ≤ 38900 → (∀ S3, OuS S3 t (l2 ++ ((if w = 2 then wln top else []) ++ (if nk V g = 5 then wq (nq V c) ++ (if w = 2 then sx 16 else sx 17) else [])) ++ wrF f w top (sg V c)) → FC (wtF t top) S2 S3 → S3.1 515 (top - 1) = (c : Int) → Ev (fun n => f_X12_writes n d 64 S3 [(t : Int), (K : Int), w, (top : Int)]) Q) → Ev (fun n => f_X12_writes n d 177 S2 [(t : Int), (K : Int), w, (top : Int), (g : Int), (c : Int)]) Q := by
    intro c S2 l2 hc h2 hf2 hl2 nx2
    refine ev_up (fun n => e_X12_writes_177) ?_
    unfold b_X12_writes_177
    refine ev_gv ?_
    refine ev_gg (by first | omega | (constructor <;> omega)) ?_
    refine ev_gv ?_
    refine ev_gg (by first | omega | (constructor <;> omega)) ?_
    rw [show ((top : Int) - 1).toNat = top - 1 by omega]
    have f3 : FC (wtF t top) S2 (gI S2 515 (top - 1) c) := fc_gI (Or.inr (Or.inr ⟨rfl, by omega⟩))
    have o3 : OuS (gI S2 515 (top - 1) c) t l2 := ou_fr h2 (fc_gI (P := fun c j => c = 515) rfl) (by decide) (fun j _ _ => by decide)
    refine ev_ite (fun q => ?_) (fun q => ?_)
    · rw [if_neg q, List.nil_append] at hl2 nx2
      refine s201 c _ l2 hc o3 (fc_tr hf2 f3) hl2 (fun S3 h3 f4 => nx2 S3 h3 (fc_tr f3 (fc_mono f4 (fun c j z => by omega))) ?_)
      rw [fc_i f4 (by omega)]
      exact gI_a
    · have q2 : w = 2 := by omega
      rw [if_pos q2] at hl2 nx2
      have wl : (wln top).length = 2 * top + 1 := by
        unfold wln
        rw [List.length_append, List.length_replicate, List.length_singleton]
        omega
      refine ev_gg (by first | omega | (constructor <;> omega)) ?_
      refine ev_gc (q_putsLine (d := d - 1) (K := top) (by omega) rfl ht rfl (by omega) o3 (by simp only [List.length_append] at hl2; omega)) (fun _ S4 q4 => ?_)
      obtain ⟨h4', f4⟩ := q4
      have f4' : FC (wtF t top) S2 S4 := fc_tr f3 (fc_mono f4 (fun c j z => Or.inl z))
      refine s201 c S4 _ hc h4' (fc_tr hf2 f4') (by simp only [List.append_assoc] at hl2 ⊢; exact hl2) (fun S5 h5 f5 => nx2 S5 (by simp only [List.append_assoc] at h5 ⊢; exact h5) (fc_tr f4' (fc_mono f5 (fun c j z => by omega))) ?_)
      rw [fc_i f5 (by omega), fc_i f4 (by omega)]
      exact gI_a
  have lp : ∀ (L : List Nat) (last : Int) (b : Bool) (S1 : GS) (l2 : List Int), ChN (nxW V g w) (nxW V g w last) L → (∀ c ∈ L, c ∈ kids V g) → ((last = -1 ∧ b = true) ∨ ((∃ c ∈ kids V g, last = (c : Int)) ∧ b = false)) → S1.1 513 (top - 1) = (g : Int) → S1.1 515 (top - 1) = last → OuS S1 t l2 → FC (wtF t top) S S1 → l2 ++ (wbd (wlB w) (decide (nk V g = 5)) (top - 1) (wrF f w top) b (L.map (sg V)) ++ wend (wlB w) (decide (nk V g = 5)) (top - 1)) = TT → Ev (fun n => f_X12_writes n d 64 S1 [(t : Int), (K : Int), w, (top : Int)]) Q := by
    intro L
    induction L with
    | nil =>
      intro last b S1 l2 hch hmem hlast g513 g515 h1 hf1 hT
      have hL1 := lkS S1 hf1
      have n1 : nxW V g w last = -1 := hch
      have ql : last = -1 ∨ ∃ c ∈ kids V g, last = (c : Int) := hlast.elim (fun z => Or.inl z.1) (fun z => Or.inr z.1)
      rw [show wbd (wlB w) (decide (nk V g = 5)) (top - 1) (wrF f w top) b (([] : List Nat).map (sg V)) = [] by cases b <;> rfl, List.nil_append] at hT
      have hlT := congrArg List.length hT
      rw [List.length_append] at hlT
      have p131 : ∀ (S2 : GS) (l3 : List Int), OuS S2 t l3 → FC (wtF t top) S S2 → l3 ++ [if nk V g = 5 then 125 else 93] = TT → Ev (fun n => f_X12_writes n d 131 S2 [(t : Int), (K : Int), w, ((top - 1 : Nat) : Int), (g : Int)]) Q := by
        intro S2 l3 h3 f3 e3
        have hl3 := congrArg List.length e3
        rw [List.length_append, List.length_singleton] at hl3
        refine ev_up (fun n => e_X12_writes_131) ?_
        unfold b_X12_writes_131
        refine ev_gg (by first | omega | (constructor <;> omega)) ?_
        refine ev_gcr (q_kindL (d := d - 1) (K := K) (I := g) (by omega) rfl hK rfl (lkS S2 f3) hg) ?_
        refine ev_gg (by first | omega | (constructor <;> omega)) ?_
        refine ev_ite (fun q => ?_) (fun q => ?_)
        · rw [if_pos (by omega)] at e3
          refine pu_c rfl ht h3 (by decide) (by omega) (fun y S4 h4' f4 => nx S4 ?_ (fc_tr f3 (fc_mono f4 (fun c j z => Or.inl z))))
          rw [← e3]
          exact h4'
        · rw [if_neg (by omega)] at e3
          refine pu_c rfl ht h3 (by decide) (by omega) (fun y S4 h4' f4 => nx S4 ?_ (fc_tr f3 (fc_mono f4 (fun c j z => Or.inl z))))
          rw [← e3]
          exact h4'
      have p104 : ∀ s : Int, s = (if w = 1 then 1 else 0) → Ev (fun n => f_X12_writes n d 104 S1 [(t : Int), (K : Int), w, (top : Int), (g : Int), s, last, (g : Int), (K : Int)]) Q := by
        intro s hs
        have ns := nxw last
        rw [← hs, n1] at ns
        refine ev_up (fun n => e_X12_writes_104) ?_
        unfold b_X12_writes_104
        refine ev_gg (by first | omega | (constructor <;> omega)) ?_
        refine ev_gcr (q_nextChild (d := d - 1) (K := K) (G := g) (by omega) rfl hK rfl (by rw [hs]; split <;> simp) hL1 hV hg h4 ql) ?_
        rw [ns]
        refine ev_gg (by decide) ?_
        refine ev_ite (fun z => by omega) (fun _ => ?_)
        refine ev_gv ?_
        refine ev_gg (by first | omega | (constructor <;> omega)) ?_
        rw [show (top : Int) + -1 = ((top - 1 : Nat) : Int) by omega]
        unfold wend wlB at hT hlT
        refine ev_ite (fun q => ?_) (fun q => ?_)
        · rw [decide_eq_false q, if_neg (by decide), List.nil_append] at hT
          simp only [decide_eq_true_eq] at hT
          exact p131 S1 l2 h1 hf1 hT
        · have q2 : w = 2 := by omega
          rw [decide_eq_true q2, if_pos rfl] at hT hlT
          simp only [decide_eq_true_eq] at hT
          have wl : (wln (top - 1)).length = 2 * (top - 1) + 1 := by
            unfold wln
            rw [List.length_append, List.length_replicate, List.length_singleton]
            omega
          rw [List.length_append] at hlT
          refine ev_gc (q_putsLine (d := d - 1) (K := top - 1) (by omega) rfl ht rfl (by omega) h1 (by omega)) (fun _ S2 q2' => ?_)
          refine p131 S2 _ q2'.1 (fc_tr hf1 (fc_mono q2'.2 (fun c j z => Or.inl z))) ?_
          rw [List.append_assoc]
          exact hT
      refine ev_up (fun n => e_X12_writes_64) ?_
      unfold b_X12_writes_64
      refine ev_gg (by first | omega | (constructor <;> omega)) ?_
      refine ev_ite (fun z => by omega) (fun _ => ?_)
      refine ev_gv ?_
      refine ev_gg (by first | omega | (constructor <;> omega)) ?_
      refine ev_gv ?_
      refine ev_gv ?_
      refine ev_gg (by first | omega | (constructor <;> omega)) ?_
      refine ev_gv ?_
      refine ev_gg (by first | omega | (constructor <;> omega)) ?_
      rw [show ((top : Int) - 1).toNat = top - 1 by omega, g513, g515]
      refine ev_ite (fun q => ?_) (fun q => ?_)
      · exact p104 0 (by rw [if_neg q])
      · exact p104 1 (by rw [if_pos (by omega)])
    | cons c L ihL =>
      intro last b S1 l2 hch hmem hlast g513 g515 h1 hf1 hT
      have hL1 := lkS S1 hf1
      obtain ⟨n1, hch2⟩ := hch
      have hc := hmem c List.mem_cons_self
      have ck := kid_in3 hV.1.1 hz hg hc
      have ql : last = -1 ∨ ∃ c ∈ kids V g, last = (c : Int) := hlast.elim (fun z => Or.inl z.1) (fun z => Or.inr z.1)
      have rqc := rq_sg ck.2.1 (hz c)
      have eb : wbd (wlB w) (decide (nk V g = 5)) (top - 1) (wrF f w top) b ((c :: L).map (sg V)) = (if b then [] else [44]) ++ ((if w = 2 then wln top else []) ++ (if nk V g = 5 then wq (nq V c) ++ (if w = 2 then sx 16 else sx 17) else [])) ++ wrF f w top (sg V c) ++ wbd (wlB w) (decide (nk V g = 5)) (top - 1) (wrF f w top) false (L.map (sg V)) := by
        rw [List.map_cons]
        show wpr b (wlB w) (decide (nk V g = 5)) (top - 1) (rq (sg V c)) ++ _ ++ _ = _
        unfold wpr wlB
        rw [rqc, show top - 1 + 1 = top by omega]
        simp only [decide_eq_true_eq, List.append_assoc]
      rw [eb] at hT
      have hlT := congrArg List.length hT
      have p177 : ∀ (S2 : GS), OuS S2 t (l2 ++ (if b then [] else [44])) → FC (wtF t top) S1 S2 → Ev (fun n => f_X12_writes n d 177 S2 [(t : Int), (K : Int), w, (top : Int), (g : Int), (c : Int)]) Q := by
        intro S2 h2 f2
        refine s177 c S2 _ hc h2 (fc_tr hf1 f2) (by simp only [List.length_append] at hlT ⊢; omega) (fun S3 h3 f3 e3 => ?_)
        have f13 : FC (wtF t top) S1 S3 := fc_tr f2 f3
        refine ihL (c : Int) false S3 _ hch2 (fun a ha => hmem a (List.mem_cons_of_mem _ ha)) (Or.inr ⟨⟨c, hc, rfl⟩, rfl⟩) ?_ e3 h3 (fc_tr hf1 f13) ?_
        · rw [fc_i f13 (by omega)]; exact g513
        · simp only [List.append_assoc] at hT ⊢
          exact hT
      have p104 : ∀ s : Int, s = (if w = 1 then 1 else 0) → Ev (fun n => f_X12_writes n d 104 S1 [(t : Int), (K : Int), w, (top : Int), (g : Int), s, last, (g : Int), (K : Int)]) Q := by
        intro s hs
        have ns := nxw last
        rw [← hs, n1] at ns
        refine ev_up (fun n => e_X12_writes_104) ?_
        unfold b_X12_writes_104
        refine ev_gg (by first | omega | (constructor <;> omega)) ?_
        refine ev_gcr (q_nextChild (d := d - 1) (K := K) (G := g) (by omega) rfl hK rfl (by rw [hs]; split <;> simp) hL1 hV hg h4 ql) ?_
        rw [ns]
        refine ev_gg (by first | omega | (constructor <;> omega)) ?_
        refine ev_ite (fun _ => ?_) (fun z => by omega)
        refine ev_gv ?_
        refine ev_gg (by first | omega | (constructor <;> omega)) ?_
        refine ev_gv ?_
        rw [show ((top : Int) - 1).toNat = top - 1 by omega, g515]
        refine ev_gg (kidO_inr hV.1.1 hz hg l1 ql) ?_
        refine ev_ite (fun q => ?_) (fun q => ?_)
        · have eb1 : b = true := by
            rcases hlast with z | z
            · exact z.2
            · obtain ⟨⟨x, _, x2⟩, _⟩ := z; omega
          rw [eb1] at p177
          exact p177 S1 (by rw [if_pos rfl, List.append_nil]; exact h1) fc_rf
        · have eb1 : b = false := by
            rcases hlast with z | z
            · exact absurd z.1 q
            · exact z.2
          rw [eb1] at p177
          refine pu_c rfl ht h1 (by decide) (by simp only [List.length_append] at hlT; omega) (fun y S2 h2 f2 => ?_)
          exact p177 S2 (by rw [if_neg (by decide)]; exact h2) (fc_mono f2 (fun c j z => Or.inl z))
      refine ev_up (fun n => e_X12_writes_64) ?_
      unfold b_X12_writes_64
      refine ev_gg (by first | omega | (constructor <;> omega)) ?_
      refine ev_ite (fun z => by omega) (fun _ => ?_)
      refine ev_gv ?_
      refine ev_gg (by first | omega | (constructor <;> omega)) ?_
      refine ev_gv ?_
      refine ev_gv ?_
      refine ev_gg (by first | omega | (constructor <;> omega)) ?_
      refine ev_gv ?_
      refine ev_gg (by first | omega | (constructor <;> omega)) ?_
      rw [show ((top : Int) - 1).toNat = top - 1 by omega, g513, g515]
      refine ev_ite (fun q => ?_) (fun q => ?_)
      · exact p104 0 (by rw [if_neg q])
      · exact p104 1 (by rw [if_pos (by omega)])
  refine lp (orV V g w) (-1) true S l ord.1 ord.2.2 (Or.inl ⟨rfl, rfl⟩) h513 h515 hO fc_rf ?_
  rw [ord.2.1]
  exact hTT
end RWR
