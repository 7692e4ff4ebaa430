/-! THE REFERENCE: the first, the last of like KEYS -/
section WAY
variable {V : List ND}
abbrev kyIn (V : List ND) (P : List Nat) (k : Nat) : Bool := P.any (fun p => decide (nq V p = nq V k))
theorem kyIn_iff {P : List Nat} {k : Nat} : kyIn V P k = true ↔ nq V k ∈ P.map (nq V) := by
  unfold kyIn
  rw [List.any_eq_true, List.mem_map]
  exact ⟨fun ⟨p, h1, h2⟩ => ⟨p, h1, of_decide_eq_true h2⟩, fun ⟨p, h1, h2⟩ => ⟨p, h1, decide_eq_true h2⟩⟩
theorem fiN_c {P K : List Nat} {k : Nat} : fiN V P (k :: K) = if kyIn V P k = true then fiN V (P ++ [k]) K else k :: fiN V (P ++ [k]) K := rfl
theorem fiN_snoc {k : Nat} : ∀ (P Q : List Nat), fiN V Q (P ++ [k]) = fiN V Q P ++ (if kyIn V (Q ++ P) k = true then [] else [k])
  | [], Q => by
    rw [List.nil_append, List.append_nil, fiN_c]
    show (if _ then fiN V (Q ++ [k]) [] else k :: fiN V (Q ++ [k]) []) = [] ++ _
    rw [List.nil_append]
    rfl
  | p :: P, Q => by
    rw [List.cons_append, fiN_c, fiN_c, fiN_snoc P (Q ++ [p]), List.append_assoc, List.singleton_append]
    by_cases c : kyIn V Q p = true
    · rw [if_pos c, if_pos c]
    · rw [if_neg c, if_neg c, List.cons_append]
theorem laN_snoc {c k : Nat} : ∀ (P : List Nat) (x : Nat), laN V c (P ++ [k]) x = if nq V k = nq V c then k else laN V c P x
  | [], x => rfl
  | p :: P, x => laN_snoc P _
theorem laN_key {c : Nat} : ∀ (P : List Nat) (x : Nat), nq V x = nq V c → nq V (laN V c P x) = nq V c
  | [], x, h => h
  | p :: P, x, h => by
    refine laN_key P _ ?_
    by_cases e : nq V p = nq V c
    · rw [if_pos e]; exact e
    · rw [if_neg e]; exact h
theorem laN_mem {c : Nat} : ∀ (P : List Nat) (x : Nat), laN V c P x = x ∨ laN V c P x ∈ P
  | [], x => Or.inl rfl
  | p :: P, x => by
    rcases laN_mem (c := c) P (if nq V p = nq V c then p else x) with e | e
    · by_cases q : nq V p = nq V c
      · rw [if_pos q] at e
        exact Or.inr (by show laN V c P (if nq V p = nq V c then p else x) ∈ _; rw [if_pos q, e]; exact List.mem_cons_self)
      · rw [if_neg q] at e
        exact Or.inl (by show laN V c P (if nq V p = nq V c then p else x) = x; rw [if_neg q, e])
    · exact Or.inr (List.mem_cons_of_mem _ e)
theorem fiN_mem : ∀ (P Q : List Nat), ∀ c ∈ fiN V Q P, c ∈ P
  | [], Q, c, h => by cases h
  | p :: P, Q, c, h => by
    rw [fiN_c] at h
    by_cases e : kyIn V Q p = true
    · rw [if_pos e] at h
      exact List.mem_cons_of_mem _ (fiN_mem P _ c h)
    · rw [if_neg e] at h
      rcases List.mem_cons.mp h with w | w
      · rw [w]; exact List.mem_cons_self
      · exact List.mem_cons_of_mem _ (fiN_mem P _ c w)
theorem fiN_keys : ∀ (P Q : List Nat), ((fiN V Q P).map (nq V)).Nodup ∧ (∀ c ∈ fiN V Q P, nq V c ∉ Q.map (nq V)) ∧ ∀ p ∈ P, nq V p ∈ Q.map (nq V) ∨ nq V p ∈ (fiN V Q P).map (nq V)
  | [], Q => ⟨List.nodup_nil, (fun c h => (by cases h)), (fun p h => (by cases h))⟩
  | p :: P, Q => by
    obtain ⟨a, b, c⟩ := fiN_keys P (Q ++ [p])
    rw [fiN_c]
    by_cases e : kyIn V Q p = true
    · have e' := kyIn_iff.mp e
      rw [if_pos e]
      refine ⟨a, fun x hx z => b x hx (by rw [List.map_append]; exact List.mem_append_left _ z), fun x hx => ?_⟩
      rcases List.mem_cons.mp hx with w | w
      · rw [w]; exact Or.inl e'
      · rcases c x w with z | z
        · rw [List.map_append] at z
          rcases List.mem_append.mp z with y | y
          · exact Or.inl y
          · rw [List.map_singleton, List.mem_singleton] at y
            rw [y]; exact Or.inl e'
        · exact Or.inr z
    · have e' : nq V p ∉ Q.map (nq V) := fun z => e (kyIn_iff.mpr z)
      rw [if_neg e, List.map_cons]
      refine ⟨List.nodup_cons.mpr ⟨fun z => ?_, a⟩, fun x hx z => ?_, fun x hx => ?_⟩
      · obtain ⟨y, y1, y2⟩ := List.mem_map.mp z
        exact b y y1 (by rw [y2, List.map_append]; exact List.mem_append_right _ List.mem_cons_self)
      · rcases List.mem_cons.mp hx with w | w
        · rw [w] at z; exact e' z
        · exact b x w (by rw [List.map_append]; exact List.mem_append_left _ z)
      · rcases List.mem_cons.mp hx with w | w
        · rw [w]; exact Or.inr List.mem_cons_self
        · rcases c x w with z | z
          · rw [List.map_append] at z
            rcases List.mem_append.mp z with y | y
            · exact Or.inl y
            · rw [List.map_singleton, List.mem_singleton] at y
              rw [y]; exact Or.inr List.mem_cons_self
          · exact Or.inr (List.mem_cons_of_mem _ z)
theorem insK_map {G : List ND} {q : List Int} {X : Nat → List ND} (hG : kyT G q = G) : ∀ (C : List Nat), (∀ c ∈ C, rq (X c) = nq V c) → (C.map (nq V)).Nodup → insK G q (C.map X) = if q ∈ C.map (nq V) then C.map (fun c => if nq V c = q then G else X c) else C.map X ++ [G]
  | [], _, _ => by
    show [kyT G q] = _
    rw [hG, if_neg (by simp)]
    rfl
  | c :: C, hX, hn => by
    have n2 := List.nodup_cons.mp hn
    have ih := insK_map hG C (fun x hx => hX x (List.mem_cons_of_mem _ hx)) n2.2
    have rc := hX c List.mem_cons_self
    show (if rq (X c) = q then kyT G q :: C.map X else X c :: insK G q (C.map X)) = _
    rw [rc, hG, ih]
    by_cases e : nq V c = q
    · rw [if_pos e, if_pos (by rw [← e]; exact List.mem_cons_self), List.map_cons, if_pos e]
      congr 1
      refine List.map_congr_left (fun x hx => ?_)
      rw [if_neg (fun z => n2.1 (by show nq V c ∈ C.map (nq V); rw [e, ← z]; exact List.mem_map.mpr ⟨x, hx, rfl⟩))]
    · rw [if_neg e]
      by_cases m : q ∈ C.map (nq V)
      · rw [if_pos m, if_pos (show q ∈ (c :: C).map (nq V) from List.mem_cons_of_mem _ m), List.map_cons, if_neg e]
      · rw [if_neg m, if_neg (show ¬ q ∈ (c :: C).map (nq V) from fun z => by rcases List.mem_cons.mp z with w | w; exact e w.symm; exact m w)]
        rfl
theorem kpK_map {G : List ND} {q : List Int} {X : Nat → List ND} (hG : kyT G q = G) : ∀ (C : List Nat), (∀ c ∈ C, rq (X c) = nq V c) → kpK G q (C.map X) = if q ∈ C.map (nq V) then C.map X else C.map X ++ [G]
  | [], _ => by
    show [kyT G q] = _
    rw [hG, if_neg (by simp)]
    rfl
  | c :: C, hX => by
    have ih := kpK_map hG C (fun x hx => hX x (List.mem_cons_of_mem _ hx))
    have rc := hX c List.mem_cons_self
    show (if rq (X c) = q then X c :: C.map X else X c :: kpK G q (C.map X)) = _
    rw [rc, ih]
    by_cases e : nq V c = q
    · rw [if_pos e, if_pos (by rw [← e]; exact List.mem_cons_self)]
      rfl
    · rw [if_neg e]
      by_cases m : q ∈ C.map (nq V)
      · rw [if_pos m, if_pos (show q ∈ (c :: C).map (nq V) from List.mem_cons_of_mem _ m)]
        rfl
      · rw [if_neg m, if_neg (show ¬ q ∈ (c :: C).map (nq V) from fun z => by rcases List.mem_cons.mp z with w | w; exact e w.symm; exact m w)]
        rfl
/-- like KEYS are one, told by numbers -/
theorem fold_fi {h : Bool} {G : Nat → List ND} (hG : ∀ k, rq (G k) = nq V k ∧ kyT (G k) (nq V k) = G k) : ∀ (R P : List Nat), R.foldl (fun E k => inH h (G k) (nq V k) E) ((fiN V [] P).map (fun c => G (if h = true then laN V c P c else c))) = (fiN V [] (P ++ R)).map (fun c => G (if h = true then laN V c (P ++ R) c else c))
  | [], P => by rw [List.append_nil]; rfl
  | k :: R, P => by
    rw [List.foldl_cons]
    have ih := fold_fi (h := h) hG R (P ++ [k])
    rw [List.append_assoc, List.singleton_append] at ih
    rw [← ih]
    congr 1
    obtain ⟨n1, n2, n3⟩ := fiN_keys (V := V) P []
    have mk : nq V k ∈ (fiN V [] P).map (nq V) ↔ kyIn V P k = true := by
      rw [kyIn_iff]
      refine ⟨fun z => ?_, fun z => ?_⟩
      · obtain ⟨c, c1, c2⟩ := List.mem_map.mp z
        rw [← c2]
        exact List.mem_map.mpr ⟨c, fiN_mem P [] c c1, rfl⟩
      · obtain ⟨p, p1, p2⟩ := List.mem_map.mp z
        rcases n3 p p1 with y | y
        · cases y
        · rw [← p2]; exact y
    rw [fiN_snoc, List.nil_append]
    cases h with
    | true =>
      show insK (G k) (nq V k) _ = _
      rw [insK_map (V := V) (hG k).2 _ (fun c hc => by rw [if_pos rfl, (hG _).1]; exact laN_key P c rfl) n1]
      by_cases m : kyIn V P k = true
      · rw [if_pos (mk.mpr m), if_pos m, List.append_nil]
        refine List.map_congr_left (fun c hc => ?_)
        rw [if_pos rfl, if_pos rfl, laN_snoc]
        by_cases e : nq V c = nq V k
        · rw [if_pos e, if_pos e.symm]
        · rw [if_neg e, if_neg (fun z => e z.symm)]
      · rw [if_neg (fun z => m (mk.mp z)), if_neg m, List.map_append, List.map_singleton]
        congr 1
        · refine List.map_congr_left (fun c hc => ?_)
          rw [if_pos rfl, if_pos rfl, laN_snoc, if_neg (fun z => m (mk.mp (List.mem_map.mpr ⟨c, hc, z.symm⟩)))]
        · rw [if_pos rfl, laN_snoc, if_pos rfl]
    | false =>
      show kpK (G k) (nq V k) _ = _
      rw [kpK_map (V := V) (hG k).2 _ (fun c hc => by rw [if_neg (by decide)]; exact (hG c).1)]
      by_cases m : kyIn V P k = true
      · rw [if_pos (mk.mpr m), if_pos m, List.append_nil]
        rfl
      · rw [if_neg (fun z => m (mk.mp z)), if_neg m, List.map_append]
        rfl
end WAY
section WA2
variable {d F : Nat} {V : List ND} {w : Int}
/-- the next first one of its KEY, behind some -/
def nfN (V : List ND) : List Nat → List Nat → Int
  | _, [] => -1
  | P, k :: K => if kyIn V P k = true then nfN V (P ++ [k]) K else (k : Int)
theorem q_isLater {S : GS} {k g i : Int} {G I : Nat} (hd : 3 ≤ d) (hk : k = (F : Int)) (hF : F < 48) (hg : g = (G : Int)) (hi : i = (I : Int)) (h : LK S F V) (hw : WF V) (hz : PZL V) (hG : G < V.length) {P R : List Nat} (hP : kids V G = P ++ I :: R) : Rd (fun n => f_X12_isLater n d 0 S [k, g, i]) (if kyIn V P I = true then 1 else 0) S := by
  subst hk hg hi
  have z := pz_l hz
  have l := h.2.1
  have wg := hw.1 G hG
  have kI := kid_in3 hw z hG (by rw [hP]; exact List.mem_append_right _ List.mem_cons_self)
  have lp : ∀ (P2 : List Nat) (a : Nat), ks V a (G + nz V G) = P2 ++ I :: R → G < a → Rd (fun n => f_X12_isLater n d 5 S [(F : Int), (I : Int), (a : Int)]) (if kyIn V P2 I = true then 1 else 0) S := by
    intro P2
    induction P2 with
    | nil =>
      intro a ha hga
      have ca : a < G + nz V G := by
        by_cases q : a < G + nz V G
        · exact q
        · rw [ks_nil (by omega)] at ha; cases ha
      rw [ks_cons z ca] at ha
      have e := (List.cons.inj ha).1
      subst e
      refine ev_up (fun n => e_X12_isLater_5) ?_
      unfold b_X12_isLater_5
      refine ev_gg (by first | omega | (constructor <;> omega)) ?_
      refine ev_gg (by first | omega | (constructor <;> omega)) ?_
      refine ev_ite (fun _ => ?_) (fun z => by omega)
      exact ev_ret ⟨rfl, rfl⟩
    | cons p P2 ih =>
      intro a ha hga
      have ca : a < G + nz V G := by
        by_cases q : a < G + nz V G
        · exact q
        · rw [ks_nil (by omega)] at ha; cases ha
      have lt := ks_lt (e := G + nz V G) z (p :: P2) a ha p List.mem_cons_self
      rw [ks_cons z ca, List.cons_append] at ha
      obtain ⟨e, ha2⟩ := List.cons.inj ha
      subst e
      have al : a < V.length := by omega
      have br := bk_in h al kI.2.1
      have be := bk_eq (nq V a) (nq V I)
      refine ev_up (fun n => e_X12_isLater_5) ?_
      unfold b_X12_isLater_5
      refine ev_gg (by first | omega | (constructor <;> omega)) ?_
      refine ev_gg (by first | omega | (constructor <;> omega)) ?_
      refine ev_ite (fun z => by omega) (fun _ => ?_)
      refine ev_gg (by first | omega | (constructor <;> omega)) ?_
      refine ev_gcr (q_byKeysL (d := d - 1) (K := F) (I := a) (J := I) (by omega) rfl rfl hF rfl rfl h al kI.2.1) ?_
      refine ev_gg (by first | omega | (constructor <;> omega)) ?_
      refine ev_ite (fun q => ?_) (fun q => ?_)
      · refine ev_gcr (q_endL (d := d - 1) (K := F) (I := a) (by omega) rfl hF rfl h al) ?_
        have e1 : kyIn V (a :: P2) I = kyIn V P2 I := by
          show (decide (nq V a = nq V I) || _) = _
          rw [decide_eq_false (fun y => q (be.mpr y)), Bool.false_or]
        rw [e1]
        exact ih (a + nz V a) ha2 (by omega)
      · have e1 : kyIn V (a :: P2) I = true := by
          show (decide (nq V a = nq V I) || _) = true
          rw [decide_eq_true (be.mp (by omega)), Bool.true_or]
        exact ev_ret ⟨by rw [if_pos e1], rfl⟩
  refine ev_up (fun n => e_X12_isLater_0) ?_
  unfold b_X12_isLater_0
  refine ev_gv ?_
  rw [show (G : Int) + 1 = ((G + 1 : Nat) : Int) by omega]
  exact lp P (G + 1) hP (by omega)
theorem q_lastLike {S : GS} {k g i : Int} {G I : Nat} (hd : 3 ≤ d) (hk : k = (F : Int)) (hF : F < 48) (hg : g = (G : Int)) (hi : i = (I : Int)) (h : LK S F V) (hw : WF V) (hz : PZL V) (hG : G < V.length) (hI : I < V.length) : Rd (fun n => f_X12_lastLike n d 0 S [k, g, i]) (laN V I (kids V G) I : Int) S := by
  subst hk hg hi
  have z := pz_l hz
  have l := h.2.1
  have wg := hw.1 G hG
  have zg := z G
  have lp : ∀ (P2 : List Nat) (a x : Nat), ks V a (G + nz V G) = P2 → G < a → a ≤ G + nz V G → Rd (fun n => f_X12_lastLike n d 8 S [(F : Int), (G : Int), (I : Int), (x : Int), (a : Int)]) (laN V I P2 x : Int) S := by
    intro P2
    induction P2 with
    | nil =>
      intro a x ha hga ha2
      have ca : ¬ a < G + nz V G := fun q => by rw [ks_cons z q] at ha; cases ha
      refine ev_up (fun n => e_X12_lastLike_8) ?_
      unfold b_X12_lastLike_8
      refine ev_gg (by first | omega | (constructor <;> omega)) ?_
      refine ev_gcr (q_endL (d := d - 1) (K := F) (I := G) (by omega) rfl hF rfl h hG) ?_
      refine ev_gg (by first | omega | (constructor <;> omega)) ?_
      refine ev_gg (by first | omega | (constructor <;> omega)) ?_
      refine ev_ite (fun _ => ?_) (fun z => by omega)
      exact ev_ret ⟨rfl, rfl⟩
    | cons p P2 ih =>
      intro a x ha hga ha2
      have ca : a < G + nz V G := by
        by_cases q : a < G + nz V G
        · exact q
        · rw [ks_nil (by omega)] at ha; cases ha
      rw [ks_cons z ca] at ha
      obtain ⟨e, ha3⟩ := List.cons.inj ha
      subst e
      have al : a < V.length := by omega
      have w2 := hw.2.1 G a hga ca
      have br := bk_in h al hI
      have be := bk_eq (nq V a) (nq V I)
      refine ev_up (fun n => e_X12_lastLike_8) ?_
      unfold b_X12_lastLike_8
      refine ev_gg (by first | omega | (constructor <;> omega)) ?_
      refine ev_gcr (q_endL (d := d - 1) (K := F) (I := G) (by omega) rfl hF rfl h hG) ?_
      refine ev_gg (by first | omega | (constructor <;> omega)) ?_
      refine ev_gg (by first | omega | (constructor <;> omega)) ?_
      refine ev_ite (fun z => by omega) (fun _ => ?_)
      refine ev_gcr (q_byKeysL (d := d - 1) (K := F) (I := a) (J := I) (by omega) rfl rfl hF rfl rfl h al hI) ?_
      refine ev_gg (by first | omega | (constructor <;> omega)) ?_
      refine ev_ite (fun q => ?_) (fun q => ?_)
      · refine ev_gcr (q_endL (d := d - 1) (K := F) (I := a) (by omega) rfl hF rfl h al) ?_
        have := ih (a + nz V a) x ha3 (by omega) w2
        show Ev _ (fun y S1 => y = (laN V I P2 (if nq V a = nq V I then a else x) : Int) ∧ S1 = S)
        rw [if_neg (fun y => q (be.mpr y))]
        exact this
      · refine ev_gcr (q_endL (d := d - 1) (K := F) (I := a) (by omega) rfl hF rfl h al) ?_
        have := ih (a + nz V a) a ha3 (by omega) w2
        show Ev _ (fun y S1 => y = (laN V I P2 (if nq V a = nq V I then a else x) : Int) ∧ S1 = S)
        rw [if_pos (be.mp (by omega))]
        exact this
  refine ev_up (fun n => e_X12_lastLike_0) ?_
  unfold b_X12_lastLike_0
  refine ev_gv ?_
  rw [show (G : Int) + 1 = ((G + 1 : Nat) : Int) by omega]
  exact lp (kids V G) (G + 1) I rfl (by omega) (by omega)
/-- ways 2 and 3, of a MAP -/
theorem nx_156 (hF : F < 48) (hV : TR V ∧ PZL V) {G : Nat} (hG : G < V.length) : ∀ (R P : List Nat) (a : Nat) (S : GS) (d : Nat), 5 ≤ d → LK S F V → kids V G = P ++ R → ks V a (G + nz V G) = R → G < a → a ≤ G + nz V G → Rd (fun n => f_X12_nextChild n d 156 S [(F : Int), (G : Int), (a : Int)]) (nfN V P R) S := by
  have z := pz_l hV.2
  have hw := hV.1.1
  have wg := hw.1 G hG
  intro R
  have p190 : ∀ (a : Nat) (x : Int) (S : GS) (d : Nat), 5 ≤ d → LK S F V → a ≤ G + nz V G → x = (if a < G + nz V G then (a : Int) else -1) → Rd (fun n => f_X12_nextChild n d 190 S [(F : Int), (G : Int), (a : Int)]) x S := by
    intro a x S d hd h ha hx
    have l := h.2.1
    refine ev_up (fun n => e_X12_nextChild_190) ?_
    unfold b_X12_nextChild_190
    refine ev_gg (by first | omega | (constructor <;> omega)) ?_
    refine ev_gcr (q_endL (d := d - 1) (K := F) (I := G) (by omega) rfl hF rfl h hG) ?_
    refine ev_gg (by first | omega | (constructor <;> omega)) ?_
    refine ev_gg (by first | omega | (constructor <;> omega)) ?_
    refine ev_ite (fun q => ?_) (fun q => ?_)
    · exact ev_ret ⟨by rw [hx, if_neg (by omega)], rfl⟩
    · exact ev_ret ⟨by rw [hx, if_pos (by omega)], rfl⟩
  induction R with
  | nil =>
    intro P a S d hd h hk ha hga ha2
    have l := h.2.1
    have ca : ¬ a < G + nz V G := fun q => by rw [ks_cons z q] at ha; cases ha
    refine ev_up (fun n => e_X12_nextChild_156) ?_
    unfold b_X12_nextChild_156
    refine ev_gg (by first | omega | (constructor <;> omega)) ?_
    refine ev_gcr (q_endL (d := d - 1) (K := F) (I := G) (by omega) rfl hF rfl h hG) ?_
    refine ev_gg (by first | omega | (constructor <;> omega)) ?_
    refine ev_gg (by first | omega | (constructor <;> omega)) ?_
    refine ev_ite (fun _ => ?_) (fun z => by omega)
    exact p190 a _ S d hd h ha2 (by rw [if_neg ca]; rfl)
  | cons p R ih =>
    intro P a S d hd h hk ha hga ha2
    have l := h.2.1
    have ca : a < G + nz V G := by
      by_cases q : a < G + nz V G
      · exact q
      · rw [ks_nil (by omega)] at ha; cases ha
    rw [ks_cons z ca] at ha
    obtain ⟨e, ha3⟩ := List.cons.inj ha
    subst e
    have al : a < V.length := by omega
    have w2 := hw.2.1 G a hga ca
    refine ev_up (fun n => e_X12_nextChild_156) ?_
    unfold b_X12_nextChild_156
    refine ev_gg (by first | omega | (constructor <;> omega)) ?_
    refine ev_gcr (q_endL (d := d - 1) (K := F) (I := G) (by omega) rfl hF rfl h hG) ?_
    refine ev_gg (by first | omega | (constructor <;> omega)) ?_
    refine ev_gg (by first | omega | (constructor <;> omega)) ?_
    refine ev_ite (fun z => by omega) (fun _ => ?_)
    refine ev_gcr (q_isLater (d := d - 1) (G := G) (I := a) (by omega) rfl hF rfl rfl h hw hV.2 hG hk) ?_
    show Ev _ (fun x S1 => x = (if kyIn V P a = true then nfN V (P ++ [a]) R else (a : Int)) ∧ S1 = S)
    by_cases c : kyIn V P a = true
    · rw [if_pos c, if_pos c]
      refine ev_gg (by decide) ?_
      refine ev_ite (fun z => by omega) (fun _ => ?_)
      refine ev_gcr (q_endL (d := d - 1) (K := F) (I := a) (by omega) rfl hF rfl h al) ?_
      exact ih (P ++ [a]) (a + nz V a) S d hd h (by rw [List.append_assoc]; exact hk) ha3 (by omega) w2
    · rw [if_neg c, if_neg c]
      refine ev_gg (by decide) ?_
      refine ev_ite (fun _ => ?_) (fun z => by omega)
      exact p190 a _ S d hd h ha2 (by rw [if_pos ca])
end WA2
