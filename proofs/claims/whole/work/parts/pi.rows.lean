/-! THE REFERENCE's patch: two ROWS -/
abbrev ptP : Nat → Nat → Prop := fun c j => orP 40 c j ∨ pnP c j ∨ eqP c j ∨ c = 521 ∨ c = 523 ∨ c = 524
theorem pt_or {c j : Nat} (z : orP 40 c j) : ptP c j := Or.inl z
theorem pt_pn {c j : Nat} (z : pnP c j) : ptP c j := Or.inr (Or.inl z)
theorem pt_eq {c j : Nat} (z : eqP c j) : ptP c j := Or.inr (Or.inr (Or.inl z))
theorem pt_rw {c j : Nat} (z : eqP c j ∨ c = 521 ∨ c = 523 ∨ c = 524) : ptP c j := Or.inr (Or.inr z)
theorem stp_row {V : List ND} (hV : TR V ∧ PZL V) {g c k : Nat} (hg : g < V.length) (h4 : nk V g = 4) (hk : k < (kids V g).length) (hc : (kids V g).getD k 0 = c) : pth V c = pth V g ++ 47 :: wnum (k : Int) ∧ c < V.length ∧ 1 ≤ c := by
  have sp := split_at (z := 0) hk
  rw [hc] at sp
  obtain ⟨ko, kp⟩ := kid_own hV.1.1 (pz_l hV.2) sp
  have ci := kid_in3 hV.1.1 (pz_l hV.2) hg (c := c) (by rw [sp]; exact List.mem_append_right _ List.mem_cons_self)
  have lt : ((kids V g).take k).length = k := by rw [List.length_take]; omega
  rw [lt] at kp
  refine ⟨?_, ci.2.1, by omega⟩
  rw [pth_up hV (by omega) ci.2.1 ko]
  congr 1
  unfold stp
  rw [ko, kdI_n hg, h4, if_neg (by decide), kp, show max 0 ((k : Nat) : Int) = (k : Int) by omega]
  rfl
theorem mk_len {eq : Nat → Nat → Bool} {n m : Nat} : ∀ (f a b : Nat), ∀ x ∈ mkP eq n m f a b, x.1 < n ∧ x.2 < m ∧ a ≤ x.1 ∧ b ≤ x.2
  | 0, a, b, x, hx => by cases hx
  | f + 1, a, b, x, hx => by
    rw [mkP_s] at hx
    by_cases c : n ≤ a ∨ m ≤ b
    · rw [if_pos c] at hx; cases hx
    rw [if_neg c] at hx
    by_cases e : eq a b = true
    · rw [if_pos e] at hx
      rcases List.mem_cons.mp hx with z | z
      · subst z; exact ⟨by show a < n; omega, by show b < m; omega, Nat.le_refl _, Nat.le_refl _⟩
      · have := mk_len f _ _ x z; omega
    rw [if_neg e] at hx
    split at hx
    · have := mk_len f _ _ x hx; omega
    · have := mk_len f _ _ x hx; omega
section RRW
variable {S : GS} {d A B : Nat} {V U : List ND} {os : Option (List (List ND))}
theorem q_kidAt {k g p : Int} {K G P : Nat} (hd : 3 ≤ d) (hk : k = (K : Int)) (hK : K < 48) (hg : g = (G : Int)) (hp : p = (P : Int)) (h : LK S K V) (hV : TR V ∧ PZL V) (hG : G < V.length) (hP : P < (kids V G).length) : Rd (fun n => f_X12_childAt n d 0 S [k, g, p]) (((kids V G).getD P 0 : Nat) : Int) S := by
  have := q_childAt (d := d) (K := K) (G := G) (P := P) hd hk hK hg hp h hV.1.1 hV.2 hG (by omega)
  have e : (kids V G).getD P (G + nz V G) = (kids V G).getD P 0 := by
    rw [List.getD_eq_getElem?_getD, List.getD_eq_getElem?_getD, List.getElem?_eq_getElem hP]
    rfl
  rw [e] at this
  exact this
theorem kid_at {g k : Nat} (hV : TR V ∧ PZL V) (hg : g < V.length) (hk : k < (kids V g).length) : (kids V g).getD k 0 < V.length ∧ g < (kids V g).getD k 0 := by
  have := kid_in3 hV.1.1 (pz_l hV.2) hg (c := (kids V g).getD k 0) (by
    rw [List.getD_eq_getElem?_getD, List.getElem?_eq_getElem hk]
    exact List.getElem_mem hk)
  omega
theorem q_patchRows {a b i j : Int} {I J : Nat} (hd : 10 ≤ d) (ha : a = (A : Int)) (hA : A < 40) (hb : b = (B : Int)) (hB : B < 40) (hi : i = (I : Int)) (hj : j = (J : Int)) (hL : LK S A V) (hM : LK S B U) (hV : DOC V) (hU : DOC U) (hI : I < V.length) (hJ : J < U.length) (h4 : nk V I = 4) (h : LsQ 40 os S) : Ev (fun n => f_X12_patchRows n d 0 S [a, i, b, j]) (fun _ S1 => LsQ 40 (btR V U (pth V I) I J os) S1 ∧ FC ptP S S1) := by
  subst ha hb hi hj
  have hV0 := hV.1.1
  have hU0 := hU.1.1
  have kn := kids_le hV0.1.1 (pz_l hV0.2) (g := I)
  have km := kids_le hU0.1.1 (pz_l hU0.2) (g := J)
  have wn := hV0.1.1.1 I hI
  have wm := hU0.1.1.1 J hJ
  have lv := hV.2.2.1
  have lu := hU.2.2.1
  obtain ⟨n, hn⟩ : ∃ n, (kids V I).length = n := ⟨_, rfl⟩
  obtain ⟨m, hm⟩ : ∃ m, (kids U J).length = m := ⟨_, rfl⟩
  rw [hn] at kn
  rw [hm] at km
  have n99 : n ≤ 99 := by omega
  have m99 : m ≤ 99 := by omega
  have inv : ∀ S1, FC ptP S S1 → LK S1 A V ∧ LK S1 B U := fun S1 f1 => ⟨lk_fr hL f1 (fun j _ _ => by omega) (by omega), lk_fr hM f1 (fun j _ _ => by omega) (by omega)⟩
  have cmp : ∀ (S1 : GS) (x y : Nat), FC ptP S S1 → x < n → y < m → Ev (fun k => f_X12_areEqual k (d - 1) 0 S1 [(A : Int), (((kids V I).getD x 0 : Nat) : Int), (B : Int), (((kids U J).getD y 0 : Nat) : Int)]) (fun z S2 => z = (if eqV V U (kids V I) (kids U J) x y = true then 1 else 0) ∧ FC eqP S1 S2) := fun S1 x y f1 hx hy => by
    have kx := kid_at hV0 hI (k := x) (by omega)
    have ky := kid_at hU0 hJ (k := y) (by omega)
    obtain ⟨i1, i2⟩ := inv S1 f1
    refine ev_mono (q_areEqual (d := d - 1) (K := A) (F := B) (I := (kids V I).getD x 0) (J := (kids U J).getD y 0) (by omega) rfl (by omega) rfl rfl (by omega) rfl i1 i2 hV.1 hU.1 kx.1 ky.1 (doc_sg hV kx.1).2.1 (doc_sg hU ky.1).2.1) (fun z S2 q => ⟨?_, q.2⟩)
    rw [q.1]
    unfold eqV smJ
    rw [if_pos (show 0 ≤ (((kids U J).getD y 0 : Nat) : Int) ∧ (((kids U J).getD y 0 : Nat) : Int) < (U.length : Int) by omega), Int.toNat_natCast]
  generalize heq : eqV V U (kids V I) (kids U J) = eq at cmp
  have lcl : ∀ x y, lcV eq n m x y ≤ 99 := fun x y => by
    have := lcV_le (eq := eq) (n := n) (m := m) _ x y (Nat.le_refl _)
    omega
  obtain ⟨p, ep⟩ : ∃ p, pth V I = p := ⟨_, rfl⟩
  have p325 := pth_325 hL hV0 hV.2.1 hI
  rw [ep] at p325
  -- ORDERS that add
  have p414 : ∀ (M : List Nat) (v k : Nat) (S1 : GS) (os1 : Option (List (List ND))), k + v = m → LsQ 40 os1 S1 → FC ptP S S1 → (∀ y, y < 101 → S1.2.1 524 y = decide (y ∈ M)) → Ev (fun q => f_X12_patchRows q d 414 S1 [(A : Int), (I : Int), (B : Int), (J : Int), (m : Int), (k : Int)]) (fun _ S2 => LsQ 40 (adF U (kids U J) p M v k os1) S2 ∧ FC ptP S S2) := by
    intro M v
    induction v with
    | zero =>
      intro k S1 os1 hk hs f1 h24
      refine ev_up (fun n => e_X12_patchRows_414) ?_
      unfold b_X12_patchRows_414
      refine ev_gg (by first | omega | (constructor <;> omega)) ?_
      refine ev_gg (by first | omega | (constructor <;> omega)) ?_
      refine ev_ite (fun _ => ?_) (fun z => by omega)
      exact ev_ret ⟨hs, f1⟩
    | succ v ih =>
      intro k S1 os1 hk hs f1 h24
      have ea : adF U (kids U J) p M (v + 1) k os1 = adF U (kids U J) p M v (k + 1) (if k ∈ M then os1 else addS os1 26 (p ++ 47 :: wnum (k : Int)) [sg U ((kids U J).getD k 0)]) := rfl
      rw [ea]
      refine ev_up (fun n => e_X12_patchRows_414) ?_
      unfold b_X12_patchRows_414
      refine ev_gg (by first | omega | (constructor <;> omega)) ?_
      refine ev_gg (by first | omega | (constructor <;> omega)) ?_
      refine ev_ite (fun z => by omega) (fun _ => ?_)
      refine ev_gg (by first | omega | (constructor <;> omega)) ?_
      refine ev_gv ?_
      rw [Int.toNat_natCast, h24 k (by omega)]
      by_cases c : k ∈ M
      · rw [if_pos c, decide_eq_true c]
        have bt : bi true = 1 := rfl
        rw [bt]
        refine ev_gg (by decide) ?_
        refine ev_ite (fun _ => ?_) (fun z => by omega)
        refine ev_gv ?_
        rw [show (k : Int) + 1 = ((k + 1 : Nat) : Int) by omega]
        exact ih (k + 1) S1 os1 (by omega) hs f1 h24
      · rw [if_neg c, decide_eq_false c]
        have bt : bi false = 0 := rfl
        rw [bt]
        refine ev_gg (by decide) ?_
        refine ev_ite (fun z => by omega) (fun _ => ?_)
        refine ev_gg (by first | omega | (constructor <;> omega)) ?_
        obtain ⟨i1, i2⟩ := inv S1 f1
        refine ev_gc (q_pathOfNode (d := d - 1) (K := A) (I := I) (V := V) (by omega) rfl (by omega) rfl i1 hV0 hV.2.1 hI) (fun _ S2 q2 => ?_)
        obtain ⟨pa2, f2⟩ := q2
        rw [ep] at pa2
        refine ev_gc (q_addsPlace (d := d - 1) (A := k) (by omega) rfl (by omega) pa2 (by omega)) (fun _ S3 q3 => ?_)
        obtain ⟨pa3, f3⟩ := q3
        have f03 : FC ptP S S3 := fc_tr f1 (fc_tr (fc_mono f2 (fun c j z => by first | exact pt_or z | exact pt_pn z | exact pt_eq z | exact pt_rw z | omega)) (fc_mono f3 (fun c j z => by first | exact pt_or z | exact pt_pn z | exact pt_eq z | exact pt_rw z | omega)))
        obtain ⟨i3, i4⟩ := inv S3 f03
        have ck := kid_at hU0 hJ (k := k) (by omega)
        refine ev_gcr (q_kidAt (d := d - 1) (K := B) (G := J) (P := k) (V := U) (by omega) rfl (by omega) rfl rfl i4 hU0 hJ (by omega)) ?_
        refine ev_gc (q_ordered (d := d - 1) (K := 40) (F := B) (t := 0) (V := U) (v := (((kids U J).getD k 0 : Nat) : Int)) (by omega) rfl (by decide) rfl (by omega) (by omega) (by decide) pa3 i4 hU0 (Or.inr (by omega)) (lsq_fr (lsq_fr hs f2 (fun j _ _ => by omega) (by omega) (by omega) (by omega)) f3 (fun j _ _ => by omega) (by omega) (by omega) (by omega))) (fun _ S4 q4 => ?_)
        obtain ⟨l4, pa4, f4⟩ := q4
        have evl : vL U (((kids U J).getD k 0 : Nat) : Int) = [sg U ((kids U J).getD k 0)] := by
          unfold vL
          rw [if_neg (by omega), Int.toNat_natCast]
        rw [evl] at l4
        refine ev_gv ?_
        rw [show (k : Int) + 1 = ((k + 1 : Nat) : Int) by omega]
        refine ih (k + 1) S4 _ (by omega) l4 (fc_tr f03 (fc_mono f4 (fun c j z => by first | exact pt_or z | exact pt_pn z | exact pt_eq z | exact pt_rw z | omega))) (fun y hy => ?_)
        rw [fc_b f4 (by omega), fc_b f3 (by omega), fc_b f2 (by omega)]
        exact h24 y hy
  -- ORDERS that remove
  have p368 : ∀ (M M2 : List Nat) (k : Nat) (S1 : GS) (os1 : Option (List (List ND))), k ≤ n → LsQ 40 os1 S1 → FC ptP S S1 → (∀ y, y < 101 → S1.2.1 521 y = decide (y ∈ M)) → (∀ y, y < 101 → S1.2.1 524 y = decide (y ∈ M2)) → Ev (fun q => f_X12_patchRows q d 368 S1 [(A : Int), (I : Int), (B : Int), (J : Int), (m : Int), (k : Int) - 1]) (fun _ S2 => LsQ 40 (adF U (kids U J) p M2 m 0 (rvF p M k os1)) S2 ∧ FC ptP S S2) := by
    intro M M2 k
    induction k with
    | zero =>
      intro S1 os1 hk hs f1 h21 h24
      refine ev_up (fun n => e_X12_patchRows_368) ?_
      unfold b_X12_patchRows_368
      refine ev_gg (by first | omega | (constructor <;> omega)) ?_
      refine ev_ite (fun _ => ?_) (fun z => by omega)
      exact p414 M2 m 0 S1 os1 (by omega) hs f1 h24
    | succ k ih =>
      intro S1 os1 hk hs f1 h21 h24
      have ea : rvF p M (k + 1) os1 = rvF p M k (if k ∈ M then os1 else addS os1 25 (p ++ 47 :: wnum (k : Int)) []) := rfl
      rw [ea]
      have ek : ((k + 1 : Nat) : Int) - 1 = (k : Int) := by omega
      rw [ek]
      refine ev_up (fun n => e_X12_patchRows_368) ?_
      unfold b_X12_patchRows_368
      refine ev_gg (by first | omega | (constructor <;> omega)) ?_
      refine ev_ite (fun z => by omega) (fun _ => ?_)
      refine ev_gg (by first | omega | (constructor <;> omega)) ?_
      refine ev_gv ?_
      rw [Int.toNat_natCast, h21 k (by omega)]
      by_cases c : k ∈ M
      · rw [if_pos c, decide_eq_true c]
        have bt : bi true = 1 := rfl
        rw [bt]
        refine ev_gg (by decide) ?_
        refine ev_ite (fun _ => ?_) (fun z => by omega)
        refine ev_gv ?_
        rw [show (k : Int) + (-1) = (k : Int) - 1 by omega]
        exact ih S1 os1 (by omega) hs f1 h21 h24
      · rw [if_neg c, decide_eq_false c]
        have bt : bi false = 0 := rfl
        rw [bt]
        refine ev_gg (by decide) ?_
        refine ev_ite (fun z => by omega) (fun _ => ?_)
        refine ev_gg (by first | omega | (constructor <;> omega)) ?_
        obtain ⟨i1, i2⟩ := inv S1 f1
        obtain ⟨sr1, sr2, sr3⟩ := stp_row hV0 hI h4 (k := k) (by omega) rfl
        rw [ep] at sr1
        refine ev_gcr (q_kidAt (d := d - 1) (K := A) (G := I) (P := k) (V := V) (by omega) rfl (by omega) rfl rfl i1 hV0 hI (by omega)) ?_
        refine ev_gc (q_pathOfNode (d := d - 1) (K := A) (I := (kids V I).getD k 0) (V := V) (by omega) rfl (by omega) rfl i1 hV0 hV.2.1 sr2) (fun _ S2 q2 => ?_)
        obtain ⟨pa2, f2⟩ := q2
        rw [sr1] at pa2
        have f02 : FC ptP S S2 := fc_tr f1 (fc_mono f2 (fun c j z => by first | exact pt_or z | exact pt_pn z | exact pt_eq z | exact pt_rw z | omega))
        obtain ⟨i3, i4⟩ := inv S2 f02
        refine ev_gc (q_ordered (d := d - 1) (K := 40) (F := A) (t := 1) (V := V) (v := -1) (by omega) rfl (by decide) rfl (by omega) (by omega) (by decide) pa2 i3 hV0 (Or.inl rfl) (lsq_fr hs f2 (fun j _ _ => by omega) (by omega) (by omega) (by omega))) (fun _ S4 q4 => ?_)
        obtain ⟨l4, pa4, f4⟩ := q4
        have evl : vL V (-1) = [] := rfl
        rw [evl] at l4
        refine ev_gv ?_
        rw [show (k : Int) + (-1) = (k : Int) - 1 by omega]
        refine ih S4 _ (by omega) l4 (fc_tr f02 (fc_mono f4 (fun c j z => by first | exact pt_or z | exact pt_pn z | exact pt_eq z | exact pt_rw z | omega))) (fun y hy => ?_) (fun y hy => ?_)
        · rw [fc_b f4 (by omega), fc_b f2 (by omega)]
          exact h21 y hy
        · rw [fc_b f4 (by omega), fc_b f2 (by omega)]
          exact h24 y hy
  have fin : ∀ (D : List (Nat × Nat)) (S1 : GS), D = mkP eq n m 200 0 0 → LsQ 40 os S1 → FC ptP S S1 → (∀ y, y < 101 → S1.2.1 521 y = decide (y ∈ D.map Prod.fst)) → (∀ y, y < 101 → S1.2.1 524 y = decide (y ∈ D.map Prod.snd)) → Ev (fun q => f_X12_patchRows q d 368 S1 [(A : Int), (I : Int), (B : Int), (J : Int), (m : Int), (n : Int) - 1]) (fun _ S2 => LsQ 40 (btR V U (pth V I) I J os) S2 ∧ FC ptP S S2) := by
    intro D S1 hD hs f1 h21 h24
    have := p368 (D.map Prod.fst) (D.map Prod.snd) n S1 os (Nat.le_refl _) hs f1 h21 h24
    unfold btR
    rw [ep, hn, hm, heq, ← hD]
    exact this
  have lsf : ∀ S1, FC (fun c j => eqP c j ∨ c = 521 ∨ c = 523 ∨ c = 524) S S1 → LsQ 40 os S1 ∧ FC ptP S S1 := fun S1 f1 => ⟨lsq_fr h f1 (fun j _ _ => by omega) (by omega) (by omega) (by omega), fc_mono f1 (fun c j z => by first | exact pt_or z | exact pt_pn z | exact pt_eq z | exact pt_rw z | omega)⟩
  -- pairs are marked
  have p254 : ∀ (f x y : Nat) (D : List (Nat × Nat)) (S1 : GS), (n - x) + (m - y) < f → x ≤ n → y ≤ m → D ++ mkP eq n m f x y = mkP eq n m 200 0 0 → FC (fun c j => eqP c j ∨ c = 521 ∨ c = 523 ∨ c = 524) S S1 → (∀ a b, a ≤ n → b ≤ m → S1.1 523 (101 * a + b) = (lcV eq n m a b : Int)) → (∀ y, y < 101 → S1.2.1 521 y = decide (y ∈ D.map Prod.fst)) → (∀ y, y < 101 → S1.2.1 524 y = decide (y ∈ D.map Prod.snd)) → Ev (fun q => f_X12_patchRows q d 254 S1 [(A : Int), (I : Int), (B : Int), (J : Int), (n : Int), (m : Int), (x : Int), (y : Int)]) (fun _ S2 => LsQ 40 (btR V U (pth V I) I J os) S2 ∧ FC ptP S S2) := by
    intro f
    induction f with
    | zero => intro x y D S1 hf; omega
    | succ f ih =>
      intro x y D S1 hf hx hy hD f1 hc h21 h24
      obtain ⟨ls1, fp1⟩ := lsf S1 f1
      rw [mkP_s] at hD
      refine ev_up (fun n => e_X12_patchRows_254) ?_
      unfold b_X12_patchRows_254
      refine ev_gg (by first | omega | (constructor <;> omega)) ?_
      refine ev_gg (by first | omega | (constructor <;> omega)) ?_
      refine ev_ite (fun z => ?_) (fun z => ?_)
      · refine ev_gv ?_
        rw [if_pos (Or.inl (by omega)), List.append_nil] at hD
        exact fin D S1 hD ls1 fp1 h21 h24
      refine ev_gg (by first | omega | (constructor <;> omega)) ?_
      refine ev_gg (by first | omega | (constructor <;> omega)) ?_
      refine ev_ite (fun z2 => ?_) (fun z2 => ?_)
      · refine ev_gv ?_
        rw [if_pos (Or.inr (by omega)), List.append_nil] at hD
        exact fin D S1 hD ls1 fp1 h21 h24
      rw [if_neg (by omega)] at hD
      obtain ⟨i1, i2⟩ := inv S1 fp1
      refine ev_gg (by first | omega | (constructor <;> omega)) ?_
      refine ev_gcr (q_kidAt (d := d - 1) (K := A) (G := I) (P := x) (V := V) (by omega) rfl (by omega) rfl rfl i1 hV0 hI (by omega)) ?_
      refine ev_gcr (q_kidAt (d := d - 1) (K := B) (G := J) (P := y) (V := U) (by omega) rfl (by omega) rfl rfl i2 hU0 hJ (by omega)) ?_
      refine ev_gc (cmp S1 x y fp1 (by omega) (by omega)) (fun w S2 q2 => ?_)
      obtain ⟨we, f2⟩ := q2
      have f02 : FC (fun c j => eqP c j ∨ c = 521 ∨ c = 523 ∨ c = 524) S S2 := fc_tr f1 (fc_mono f2 (fun c j z => Or.inl z))
      have hc2 : ∀ a b, a ≤ n → b ≤ m → S2.1 523 (101 * a + b) = (lcV eq n m a b : Int) := fun a b h1 h2 => by rw [fc_i f2 (by omega)]; exact hc a b h1 h2
      have h212 : ∀ y, y < 101 → S2.2.1 521 y = decide (y ∈ D.map Prod.fst) := fun y hy => by rw [fc_b f2 (by omega)]; exact h21 y hy
      have h242 : ∀ y, y < 101 → S2.2.1 524 y = decide (y ∈ D.map Prod.snd) := fun y hy => by rw [fc_b f2 (by omega)]; exact h24 y hy
      by_cases e : eq x y = true
      · rw [if_pos e] at we hD
        subst we
        refine ev_gg (by decide) ?_
        refine ev_ite (fun z => by omega) (fun _ => ?_)
        refine ev_gg (by first | omega | (constructor <;> omega)) ?_
        refine ev_gv ?_
        refine ev_gg (by first | omega | (constructor <;> omega)) ?_
        refine ev_gv ?_
        refine ev_gv ?_
        refine ev_gv ?_
        rw [Int.toNat_natCast, Int.toNat_natCast, show (x : Int) + 1 = ((x + 1 : Nat) : Int) by omega, show (y : Int) + 1 = ((y + 1 : Nat) : Int) by omega]
        have f3 : FC (fun c j => c = 521 ∨ c = 524) S2 (gB (gB S2 521 x (decide ((1 : Int) = 1))) 524 y (decide ((1 : Int) = 1))) := fc_tr (fc_gB (Or.inl rfl)) (fc_gB (Or.inr rfl))
        refine ih (x + 1) (y + 1) (D ++ [(x, y)]) _ (by omega) (by omega) (by omega) (by rw [List.append_assoc]; exact hD) (fc_tr f02 (fc_mono f3 (fun c j z => by first | exact pt_or z | exact pt_pn z | exact pt_eq z | exact pt_rw z | omega))) (fun a b h1 h2 => by rw [fc_i f3 (by omega)]; exact hc2 a b h1 h2) (fun y2 hy2 => ?_) (fun y2 hy2 => ?_)
        · rw [gB_c (by decide), List.map_append]
          by_cases ee : y2 = x
          · subst ee
            rw [gB_a]
            simp
          · rw [gB_k ee, h212 y2 hy2]
            simp [ee]
        · rw [List.map_append]
          by_cases ee : y2 = y
          · subst ee
            rw [gB_a]
            simp
          · rw [gB_k ee, gB_c (by decide), h242 y2 hy2]
            simp [ee]
      · rw [if_neg e] at we hD
        subst we
        have c1 := hc2 (x + 1) y (by omega) (by omega)
        have c2 := hc2 x y (by omega) (by omega)
        have l1 := lcl (x + 1) y
        have l2 := lcl x y
        refine ev_gg (by decide) ?_
        refine ev_ite (fun _ => ?_) (fun z => by omega)
        refine ev_gv ?_
        refine ev_gv ?_
        refine ev_gv ?_
        refine ev_gg (by first | omega | (constructor <;> omega)) ?_
        refine ev_gv ?_
        rw [show (101 * ((x : Int) + 1) + (y : Int)).toNat = 101 * (x + 1) + y by omega, c1]
        refine ev_gv ?_
        refine ev_gv ?_
        refine ev_gg (by first | omega | (constructor <;> omega)) ?_
        refine ev_gv ?_
        rw [show (101 * (x : Int) + (y : Int)).toNat = 101 * x + y by omega, c2]
        refine ev_gg (by first | omega | (constructor <;> omega)) ?_
        refine ev_gg (by first | omega | (constructor <;> omega)) ?_
        refine ev_ite (fun z3 => ?_) (fun z3 => ?_)
        · refine ev_gv ?_
          rw [show (y : Int) + 1 = ((y + 1 : Nat) : Int) by omega]
          rw [if_neg (by omega)] at hD
          exact ih x (y + 1) D S2 (by omega) (by omega) (by omega) hD f02 hc2 h212 h242
        · refine ev_gv ?_
          rw [show (x : Int) + 1 = ((x + 1 : Nat) : Int) by omega]
          rw [if_pos (by omega)] at hD
          exact ih (x + 1) y D S2 (by omega) (by omega) (by omega) hD f02 hc2 h212 h242
  -- nothing is marked at first
  have p219 : ∀ (v k : Nat) (S1 : GS), k + v = 101 → FC (fun c j => eqP c j ∨ c = 521 ∨ c = 523 ∨ c = 524) S S1 → (∀ a b, a ≤ n → b ≤ m → S1.1 523 (101 * a + b) = (lcV eq n m a b : Int)) → (∀ y, y < k → S1.2.1 521 y = false ∧ S1.2.1 524 y = false) → Ev (fun q => f_X12_patchRows q d 219 S1 [(A : Int), (I : Int), (B : Int), (J : Int), (n : Int), (m : Int), (k : Int)]) (fun _ S2 => LsQ 40 (btR V U (pth V I) I J os) S2 ∧ FC ptP S S2) := by
    intro v
    induction v with
    | zero =>
      intro k S1 hk f1 hc hz
      refine ev_up (fun n => e_X12_patchRows_219) ?_
      unfold b_X12_patchRows_219
      refine ev_gg (by first | omega | (constructor <;> omega)) ?_
      refine ev_ite (fun _ => ?_) (fun z => by omega)
      exact p254 200 0 0 [] S1 (by omega) (by omega) (by omega) rfl f1 hc (fun y hy => by rw [(hz y (by omega)).1]; rfl) (fun y hy => by rw [(hz y (by omega)).2]; rfl)
    | succ v ih =>
      intro k S1 hk f1 hc hz
      refine ev_up (fun n => e_X12_patchRows_219) ?_
      unfold b_X12_patchRows_219
      refine ev_gg (by first | omega | (constructor <;> omega)) ?_
      refine ev_ite (fun z => by omega) (fun _ => ?_)
      refine ev_gg (by first | omega | (constructor <;> omega)) ?_
      refine ev_gv ?_
      refine ev_gv ?_
      refine ev_gv ?_
      rw [Int.toNat_natCast, show (k : Int) + 1 = ((k + 1 : Nat) : Int) by omega]
      have f3 : FC (fun c j => c = 521 ∨ c = 524) S1 (gB (gB S1 521 k (decide ((0 : Int) = 1))) 524 k (decide ((0 : Int) = 1))) := fc_tr (fc_gB (Or.inl rfl)) (fc_gB (Or.inr rfl))
      refine ih (k + 1) _ (by omega) (fc_tr f1 (fc_mono f3 (fun c j z => by first | exact pt_or z | exact pt_pn z | exact pt_eq z | exact pt_rw z | omega))) (fun a b h1 h2 => by rw [fc_i f3 (by omega)]; exact hc a b h1 h2) (fun y hy => ?_)
      by_cases e : y = k
      · subst e
        rw [gB_c (by decide), gB_a, gB_a]
        exact ⟨rfl, rfl⟩
      · rw [gB_c (by decide), gB_k e, gB_k e, gB_c (by decide)]
        exact hz y (by omega)
  -- COMMON ones are counted
  have p32 : ∀ (x : Nat), x ≤ n → (∀ S1, FC (fun c j => eqP c j ∨ c = 521 ∨ c = 523 ∨ c = 524) S S1 → (∀ a b, x ≤ a → a ≤ n → b ≤ m → S1.1 523 (101 * a + b) = (lcV eq n m a b : Int)) → Ev (fun q => f_X12_patchRows q d 23 S1 [(A : Int), (I : Int), (B : Int), (J : Int), (n : Int), (m : Int), (x : Int) - 1]) (fun _ S2 => LsQ 40 (btR V U (pth V I) I J os) S2 ∧ FC ptP S S2)) → ∀ (y : Nat) (S1 : GS), y ≤ m + 1 → FC (fun c j => eqP c j ∨ c = 521 ∨ c = 523 ∨ c = 524) S S1 → (∀ a b, x + 1 ≤ a → a ≤ n → b ≤ m → S1.1 523 (101 * a + b) = (lcV eq n m a b : Int)) → (∀ b, y ≤ b → b ≤ m → S1.1 523 (101 * x + b) = (lcV eq n m x b : Int)) → Ev (fun q => f_X12_patchRows q d 32 S1 [(A : Int), (I : Int), (B : Int), (J : Int), (n : Int), (m : Int), (x : Int), (y : Int) - 1]) (fun _ S2 => LsQ 40 (btR V U (pth V I) I J os) S2 ∧ FC ptP S S2) := by
    intro x hx nx y
    induction y with
    | zero =>
      intro S1 hy f1 hr hc
      refine ev_up (fun n => e_X12_patchRows_32) ?_
      unfold b_X12_patchRows_32
      refine ev_gg (by first | omega | (constructor <;> omega)) ?_
      refine ev_ite (fun _ => ?_) (fun z => by omega)
      refine ev_gv ?_
      rw [show (x : Int) + (-1) = (x : Int) - 1 by omega]
      refine nx S1 f1 (fun a b h1 h2 h3 => ?_)
      by_cases e : a = x
      · subst e; exact hc b (by omega) h3
      · exact hr a b (by omega) h2 h3
    | succ y ih =>
      intro S1 hy f1 hr hc
      have ey : ((y + 1 : Nat) : Int) - 1 = (y : Int) := by omega
      rw [ey]
      have p189 : ∀ (S2 : GS) (w : Int), w = (lcV eq n m x y : Int) → FC eqP S1 S2 → Ev (fun q => f_X12_patchRows q d 189 S2 [(A : Int), (I : Int), (B : Int), (J : Int), (n : Int), (m : Int), (x : Int), (y : Int), w]) (fun _ S2 => LsQ 40 (btR V U (pth V I) I J os) S2 ∧ FC ptP S S2) := by
        intro S2 w hw f2
        refine ev_up (fun n => e_X12_patchRows_189) ?_
        unfold b_X12_patchRows_189
        refine ev_gv ?_
        refine ev_gv ?_
        refine ev_gg (by first | omega | (constructor <;> omega)) ?_
        refine ev_gv ?_
        rw [show (101 * (x : Int) + (y : Int)).toNat = 101 * x + y by omega]
        refine ev_gv ?_
        rw [show (y : Int) + (-1) = (y : Int) - 1 by omega]
        have f3 : FC (fun c j => c = 523 ∧ j = 101 * x + y) S2 (gI S2 523 (101 * x + y) w) := fc_gI ⟨rfl, rfl⟩
        refine ih _ (by omega) (fc_tr f1 (fc_tr (fc_mono f2 (fun c j z => Or.inl z)) (fc_mono f3 (fun c j z => by first | exact pt_or z | exact pt_pn z | exact pt_eq z | exact pt_rw z | omega)))) (fun a b h1 h2 h3 => ?_) (fun b h1 h2 => ?_)
        · rw [fc_i f3 (by omega), fc_i f2 (by omega)]
          exact hr a b h1 h2 h3
        · by_cases e : b = y
          · subst e; rw [gI_a]; exact hw
          · rw [fc_i f3 (by omega), fc_i f2 (by omega)]
            exact hc b (by omega) h2
      refine ev_up (fun n => e_X12_patchRows_32) ?_
      unfold b_X12_patchRows_32
      refine ev_gg (by first | omega | (constructor <;> omega)) ?_
      refine ev_ite (fun z => by omega) (fun _ => ?_)
      refine ev_gg (by first | omega | (constructor <;> omega)) ?_
      refine ev_gg (by first | omega | (constructor <;> omega)) ?_
      refine ev_ite (fun z => ?_) (fun z => ?_)
      · exact p189 S1 0 (by rw [lcV_0 (by omega)]; rfl) fc_rf
      refine ev_gg (by first | omega | (constructor <;> omega)) ?_
      refine ev_ite (fun z2 => ?_) (fun z2 => ?_)
      · exact p189 S1 0 (by rw [lcV_0 (by omega)]; rfl) fc_rf
      obtain ⟨ls1, fp1⟩ := lsf S1 f1
      obtain ⟨i1, i2⟩ := inv S1 fp1
      have best := lcV_best (eq := eq) (n := n) (m := m) (a := x) (b := y) (by omega)
      have l1 := lcl (x + 1) (y + 1)
      have l2 := lcl (x + 1) y
      have l3 := lcl x (y + 1)
      refine ev_gg (by first | omega | (constructor <;> omega)) ?_
      refine ev_gcr (q_kidAt (d := d - 1) (K := A) (G := I) (P := x) (V := V) (by omega) rfl (by omega) rfl rfl i1 hV0 hI (by omega)) ?_
      refine ev_gcr (q_kidAt (d := d - 1) (K := B) (G := J) (P := y) (V := U) (by omega) rfl (by omega) rfl rfl i2 hU0 hJ (by omega)) ?_
      refine ev_gc (cmp S1 x y fp1 (by omega) (by omega)) (fun w S2 q2 => ?_)
      obtain ⟨we, f2⟩ := q2
      have c1 : S2.1 523 (101 * (x + 1) + y) = (lcV eq n m (x + 1) y : Int) := by rw [fc_i f2 (by omega)]; exact hr (x + 1) y (by omega) (by omega) (by omega)
      have c2 : S2.1 523 (101 * x + (y + 1)) = (lcV eq n m x (y + 1) : Int) := by rw [fc_i f2 (by omega)]; exact hc (y + 1) (by omega) (by omega)
      have c3 : S2.1 523 (101 * (x + 1) + (y + 1)) = (lcV eq n m (x + 1) (y + 1) : Int) := by rw [fc_i f2 (by omega)]; exact hr (x + 1) (y + 1) (by omega) (by omega) (by omega)
      have p145 : ∀ s0 : Int, s0 = ((max (if eq x y then lcV eq n m (x + 1) (y + 1) + 1 else 0) (lcV eq n m (x + 1) y) : Nat) : Int) → Ev (fun q => f_X12_patchRows q d 145 S2 [(A : Int), (I : Int), (B : Int), (J : Int), (n : Int), (m : Int), (x : Int), (y : Int), s0]) (fun _ S2 => LsQ 40 (btR V U (pth V I) I J os) S2 ∧ FC ptP S S2) := by
        intro s0 hs0
        have sr : 0 ≤ s0 ∧ s0 ≤ 200 := by
          rw [hs0]
          have : (if eq x y then lcV eq n m (x + 1) (y + 1) + 1 else 0) ≤ 100 := by
            split <;> omega
          omega
        refine ev_up (fun n => e_X12_patchRows_145) ?_
        unfold b_X12_patchRows_145
        refine ev_gv ?_
        refine ev_gv ?_
        refine ev_gv ?_
        refine ev_gg (by first | omega | (constructor <;> omega)) ?_
        refine ev_gv ?_
        rw [show (101 * (x : Int) + (y : Int) + 1).toNat = 101 * x + (y + 1) by omega, c2]
        refine ev_gg (by first | omega | (constructor <;> omega)) ?_
        refine ev_gg (by first | omega | (constructor <;> omega)) ?_
        refine ev_ite (fun z3 => ?_) (fun z3 => ?_)
        · exact p189 S2 s0 (by rw [best]; omega) f2
        · refine ev_gv ?_
          refine ev_gv ?_
          refine ev_gv ?_
          refine ev_gg (by first | omega | (constructor <;> omega)) ?_
          refine ev_gv ?_
          rw [show (101 * (x : Int) + (y : Int) + 1).toNat = 101 * x + (y + 1) by omega, c2]
          exact p189 S2 _ (by rw [best]; omega) f2
      have p103 : ∀ s0 : Int, s0 = ((if eq x y then lcV eq n m (x + 1) (y + 1) + 1 else 0 : Nat) : Int) → Ev (fun q => f_X12_patchRows q d 103 S2 [(A : Int), (I : Int), (B : Int), (J : Int), (n : Int), (m : Int), (x : Int), (y : Int), s0]) (fun _ S2 => LsQ 40 (btR V U (pth V I) I J os) S2 ∧ FC ptP S S2) := by
        intro s0 hs0
        have sr : 0 ≤ s0 ∧ s0 ≤ 200 := by
          rw [hs0]
          split <;> omega
        refine ev_up (fun n => e_X12_patchRows_103) ?_
        unfold b_X12_patchRows_103
        refine ev_gv ?_
        refine ev_gv ?_
        refine ev_gv ?_
        refine ev_gg (by first | omega | (constructor <;> omega)) ?_
        refine ev_gv ?_
        rw [show (101 * ((x : Int) + 1) + (y : Int)).toNat = 101 * (x + 1) + y by omega, c1]
        refine ev_gg (by first | omega | (constructor <;> omega)) ?_
        refine ev_gg (by first | omega | (constructor <;> omega)) ?_
        refine ev_ite (fun z3 => ?_) (fun z3 => ?_)
        · exact p145 s0 (by omega)
        · refine ev_gv ?_
          refine ev_gv ?_
          refine ev_gv ?_
          refine ev_gg (by first | omega | (constructor <;> omega)) ?_
          refine ev_gv ?_
          rw [show (101 * ((x : Int) + 1) + (y : Int)).toNat = 101 * (x + 1) + y by omega, c1]
          exact p145 _ (by omega)
      by_cases e : eq x y = true
      · rw [if_pos e] at we
        subst we
        refine ev_gg (by decide) ?_
        refine ev_ite (fun z => by omega) (fun _ => ?_)
        refine ev_gv ?_
        refine ev_gv ?_
        refine ev_gv ?_
        refine ev_gv ?_
        refine ev_gg (by first | omega | (constructor <;> omega)) ?_
        refine ev_gv ?_
        rw [show (101 * ((x : Int) + 1) + (y : Int) + 1).toNat = 101 * (x + 1) + (y + 1) by omega, c3]
        refine ev_gv ?_
        exact p103 _ (by rw [if_pos e]; omega)
      · rw [if_neg e] at we
        subst we
        refine ev_gg (by decide) ?_
        refine ev_ite (fun _ => ?_) (fun z => by omega)
        exact p103 0 (by rw [if_neg e]; rfl)
  have p23 : ∀ (x : Nat) (S1 : GS), x ≤ n + 1 → FC (fun c j => eqP c j ∨ c = 521 ∨ c = 523 ∨ c = 524) S S1 → (∀ a b, x ≤ a → a ≤ n → b ≤ m → S1.1 523 (101 * a + b) = (lcV eq n m a b : Int)) → Ev (fun q => f_X12_patchRows q d 23 S1 [(A : Int), (I : Int), (B : Int), (J : Int), (n : Int), (m : Int), (x : Int) - 1]) (fun _ S2 => LsQ 40 (btR V U (pth V I) I J os) S2 ∧ FC ptP S S2) := by
    intro x
    induction x with
    | zero =>
      intro S1 hx f1 hr
      refine ev_up (fun n => e_X12_patchRows_23) ?_
      unfold b_X12_patchRows_23
      refine ev_gg (by first | omega | (constructor <;> omega)) ?_
      refine ev_ite (fun _ => ?_) (fun z => by omega)
      exact p219 101 0 S1 (by omega) f1 (fun a b h1 h2 => hr a b (by omega) h1 h2) (fun y hy => by omega)
    | succ x ih =>
      intro S1 hx f1 hr
      have ex : ((x + 1 : Nat) : Int) - 1 = (x : Int) := by omega
      rw [ex]
      refine ev_up (fun n => e_X12_patchRows_23) ?_
      unfold b_X12_patchRows_23
      refine ev_gg (by first | omega | (constructor <;> omega)) ?_
      refine ev_ite (fun z => by omega) (fun _ => ?_)
      have := p32 x (by omega) (fun S2 f2 h2 => ih S2 (by omega) f2 h2) (m + 1) S1 (by omega) f1 hr (fun b h1 h2 => by omega)
      rw [show ((m + 1 : Nat) : Int) - 1 = (m : Int) by omega] at this
      exact this
  have := p23 (n + 1) S (by omega) fc_rf (fun a b h1 h2 => by omega)
  rw [show ((n + 1 : Nat) : Int) - 1 = (n : Int) by omega] at this
  refine ev_up (fun n => e_X12_patchRows_0) ?_
  unfold b_X12_patchRows_0
  refine ev_gg (by first | omega | (constructor <;> omega)) ?_
  refine ev_gcr (q_manyL (d := d - 1) (K := A) (I := I) (V := V) (by omega) rfl (by omega) rfl hL hI) ?_
  refine ev_gcr (q_manyL (d := d - 1) (K := B) (I := J) (V := U) (by omega) rfl (by omega) rfl hM hJ) ?_
  rw [hn, hm]
  exact this
end RRW
