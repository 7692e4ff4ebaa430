/-! p37: the PATCH as a list of ORDERS by parts of PATHS -/
/-- an ORDER by the parts of its PATH -/
abbrev SEG : Type := Nat × List (List Int) × List (List ND)
def pre1 (s : List Int) (X : List SEG) : List SEG := X.map (fun o => (o.1, s :: o.2.1, o.2.2))
def rvP (M : List Nat) : Nat → List SEG
  | 0 => []
  | k + 1 => (if k ∈ M then [] else [(25, [wnum (k : Int)], [])]) ++ rvP M k
def adP (F : List (List ND)) (M : List Nat) : Nat → Nat → List SEG
  | 0, _ => []
  | f + 1, k => (if k ∈ M then [] else [(26, [wnum (k : Int)], [F.getD k []])]) ++ adP F M f (k + 1)
def eqN (E F : List (List ND)) (i j : Nat) : Bool := smF 13 (E.getD i []) (F.getD j [])
def rowP (E F : List (List ND)) : List SEG := rvP ((mkP (eqN E F) E.length F.length 200 0 0).map Prod.fst) E.length ++ adP F ((mkP (eqN E F) E.length F.length 200 0 0).map Prod.snd) F.length 0
def kyS (t : List ND) : List Int := (rq t).flatMap esc
def rmP (b : List (List ND)) (L : List (List ND)) : List SEG := L.flatMap (fun t => if fdS (rq t) b = none then [(25, [kyS t], [])] else [])
def gnP (g : List ND → List ND → List SEG) (b : List (List ND)) (L : List (List ND)) : List SEG := L.flatMap (fun t => match fdS (rq t) b with | none => [] | some u => pre1 (kyS t) (g t u))
def anP (a : List (List ND)) (L : List (List ND)) : List SEG := L.flatMap (fun u => if fdS (rq u) a = none then [(26, [kyS u], [u])] else [])
def ptN : Nat → List ND → List ND → List SEG
  | 0, _, _ => []
  | f + 1, a, b => if smF 13 a b then []
    else if rk a = 5 ∧ rk b = 5 then rmP (kd b) (kd a) ++ gnP (ptN f) (kd b) (kd a) ++ anP (kd a) (kd b)
    else if rk a = 4 ∧ rk b = 4 then rowP (kd a) (kd b)
    else [(21, [], [b])]
def toO (ss : List (List Int)) (X : List SEG) : List ORD := X.map (fun o => (o.1, txt (ss ++ o.2.1), o.2.2))
theorem toO_app {ss : List (List Int)} {X Y : List SEG} : toO ss (X ++ Y) = toO ss X ++ toO ss Y := List.map_append
theorem toO_pre {ss : List (List Int)} {s : List Int} {X : List SEG} : toO ss (pre1 s X) = toO (ss ++ [s]) X := by
  unfold toO pre1
  rw [List.map_map]
  refine List.map_congr_left (fun o _ => ?_)
  show (o.1, txt (ss ++ s :: o.2.1), o.2.2) = (o.1, txt (ss ++ [s] ++ o.2.1), o.2.2)
  rw [List.append_assoc]
  rfl
section BTP
variable {V U : List ND}
theorem stp_mpc (hV : TR V ∧ PZL V) {i c : Nat} (hi : i < V.length) (h5 : nk V i = 5) (hc : c ∈ kids V i) : stp V c = 47 :: kyS (sg V c) ∧ c < V.length := by
  have hz := pz_l hV.2
  obtain ⟨K1, K2, e⟩ := List.append_of_mem hc
  have ow := (kid_own hV.1.1 hz e).1
  have cl := kids_in hV.1.1 hz hi hc
  refine ⟨?_, cl⟩
  unfold stp kyS
  rw [ow, kdI_n hi, if_pos h5, rq_sg cl (hz c)]
  rfl
theorem fd_no {q : List Int} {L : List (List ND)} (h : fdS q L = none) : ∀ t ∈ L, rq t ≠ q := fun t ht => by
  unfold fdS at h
  have := List.find?_eq_none.mp h t ht
  simpa using this
theorem vl_fd (hU : TR U ∧ PZL U) {j : Nat} (hj : j < U.length) (h5 : nk U j = 5) (q : List Int) : (vLk U (j : Int) q = -1 ∧ fdS q (kd (sg U j)) = none) ∨ ∃ k : Nat, vLk U (j : Int) q = (k : Int) ∧ k < U.length ∧ fdS q (kd (sg U j)) = some (sg U k) ∧ k ∈ kids U j := by
  have hz := pz_l hU.2
  rw [kd_sg hU.2 hU.1.1 hj, vLk_n hj, if_pos h5]
  rcases fdK_S hU.2 (key := q) (kids U j) (fun k hk => kids_in hU.1.1 hz hj hk) with ⟨a, b⟩ | ⟨k, a, b, c, d⟩
  · exact Or.inl ⟨a, b⟩
  · exact Or.inr ⟨k, b, kids_in hU.1.1 hz hj a, c, a⟩
theorem rm_is (hV : TR V ∧ PZL V) (hU : TR U ∧ PZL U) {ss : List (List Int)} {i j : Nat} (hi : i < V.length) (hj : j < U.length) (v5 : nk V i = 5) (u5 : nk U j = 5) : ∀ (K : List Nat) (os : Option (List (List ND))), (∀ c ∈ K, c ∈ kids V i) → rmF V U (txt ss) j K os = adL (toO ss (rmP (kd (sg U j)) (K.map (sg V)))) os
  | [], os, _ => rfl
  | c :: K, os, h => by
    obtain ⟨s1, s2⟩ := stp_mpc hV hi v5 (h c List.mem_cons_self)
    have hz := pz_l hV.2
    show rmF V U (txt ss) j K (if vLk U (j : Int) (nq V c) = -1 then addS os 25 (txt ss ++ stp V c) [] else os) = _
    rw [rm_is hV hU hi hj v5 u5 K _ (fun x hx => h x (List.mem_cons_of_mem _ hx))]
    have er : rmP (kd (sg U j)) ((c :: K).map (sg V)) = (if fdS (rq (sg V c)) (kd (sg U j)) = none then [(25, [kyS (sg V c)], [])] else []) ++ rmP (kd (sg U j)) (K.map (sg V)) := by
      unfold rmP
      rw [List.map_cons, List.flatMap_cons]
    rw [er, toO_app, adL_app, rq_sg s2 (hz c)]
    rcases vl_fd hU hj u5 (nq V c) with ⟨a, b⟩ | ⟨k, a, _, b, _⟩
    · rw [if_pos a, if_pos b, s1]
      have : toO ss [((25, [kyS (sg V c)], []) : SEG)] = [(25, txt (ss ++ [kyS (sg V c)]), [])] := rfl
      rw [this, adL_1, txt_snoc]
    · rw [if_neg (by omega), b, if_neg (fun z => by cases z)]
      rfl
theorem an_is (hV : TR V ∧ PZL V) (hU : TR U ∧ PZL U) {ss : List (List Int)} {i j : Nat} (hi : i < V.length) (hj : j < U.length) (v5 : nk V i = 5) (u5 : nk U j = 5) : ∀ (K : List Nat) (os : Option (List (List ND))), (∀ c ∈ K, c ∈ kids U j) → anF V U (txt ss) i K os = adL (toO ss (anP (kd (sg V i)) (K.map (sg U)))) os
  | [], os, _ => rfl
  | c :: K, os, h => by
    obtain ⟨s1, s2⟩ := stp_mpc hU hj u5 (h c List.mem_cons_self)
    have hz := pz_l hU.2
    show anF V U (txt ss) i K (if vLk V (i : Int) (nq U c) = -1 then addS os 26 (txt ss ++ stp U c) [sg U c] else os) = _
    rw [an_is hV hU hi hj v5 u5 K _ (fun x hx => h x (List.mem_cons_of_mem _ hx))]
    have er : anP (kd (sg V i)) ((c :: K).map (sg U)) = (if fdS (rq (sg U c)) (kd (sg V i)) = none then [(26, [kyS (sg U c)], [sg U c])] else []) ++ anP (kd (sg V i)) (K.map (sg U)) := by
      unfold anP
      rw [List.map_cons, List.flatMap_cons]
    rw [er, toO_app, adL_app, rq_sg s2 (hz c)]
    rcases vl_fd hV hi v5 (nq U c) with ⟨a, b⟩ | ⟨k, a, _, b, _⟩
    · rw [if_pos a, if_pos b, s1]
      have : toO ss [((26, [kyS (sg U c)], [sg U c]) : SEG)] = [(26, txt (ss ++ [kyS (sg U c)]), [sg U c])] := rfl
      rw [this, adL_1, txt_snoc]
    · rw [if_neg (by omega), b, if_neg (fun z => by cases z)]
      rfl
theorem gn_is (hV : TR V ∧ PZL V) (hU : TR U ∧ PZL U) {g : List Int → Nat → Nat → Option (List (List ND)) → Option (List (List ND))} {p : List ND → List ND → List SEG} (hg : ∀ (ss : List (List Int)) (c k : Nat) (os : Option (List (List ND))), c < V.length → k < U.length → g (txt ss) c k os = adL (toO ss (p (sg V c) (sg U k))) os) {ss : List (List Int)} {i j : Nat} (hi : i < V.length) (hj : j < U.length) (v5 : nk V i = 5) (u5 : nk U j = 5) : ∀ (K : List Nat) (os : Option (List (List ND))), (∀ c ∈ K, c ∈ kids V i) → gnF g V U (txt ss) j K os = adL (toO ss (gnP p (kd (sg U j)) (K.map (sg V)))) os
  | [], os, _ => rfl
  | c :: K, os, h => by
    obtain ⟨s1, s2⟩ := stp_mpc hV hi v5 (h c List.mem_cons_self)
    have hz := pz_l hV.2
    show gnF g V U (txt ss) j K (if vLk U (j : Int) (nq V c) = -1 then os else g (txt ss ++ stp V c) c (vLk U (j : Int) (nq V c)).toNat os) = _
    rw [gn_is hV hU hg hi hj v5 u5 K _ (fun x hx => h x (List.mem_cons_of_mem _ hx))]
    have er : gnP p (kd (sg U j)) ((c :: K).map (sg V)) = (match fdS (rq (sg V c)) (kd (sg U j)) with | none => [] | some u => pre1 (kyS (sg V c)) (p (sg V c) u)) ++ gnP p (kd (sg U j)) (K.map (sg V)) := by
      unfold gnP
      rw [List.map_cons, List.flatMap_cons]
    rw [er, toO_app, adL_app, rq_sg s2 (hz c)]
    rcases vl_fd hU hj u5 (nq V c) with ⟨a, b⟩ | ⟨k, a, kl, b, _⟩
    · rw [if_pos a, b]
      rfl
    · rw [if_neg (by omega), b, a, s1, Int.toNat_natCast]
      dsimp only
      rw [toO_pre, ← txt_snoc, hg (ss ++ [kyS (sg V c)]) c k os s2 kl]
theorem rv_is {ss : List (List Int)} {M : List Nat} : ∀ (k : Nat) (os : Option (List (List ND))), rvF (txt ss) M k os = adL (toO ss (rvP M k)) os
  | 0, os => rfl
  | k + 1, os => by
    show rvF (txt ss) M k (if k ∈ M then os else addS os 25 (txt ss ++ 47 :: wnum (k : Int)) []) = adL (toO ss ((if k ∈ M then [] else [(25, [wnum (k : Int)], [])]) ++ rvP M k)) os
    rw [rv_is k, toO_app, adL_app]
    by_cases c : k ∈ M
    · rw [if_pos c, if_pos c]
      rfl
    · rw [if_neg c, if_neg c]
      have : toO ss [((25, [wnum (k : Int)], []) : SEG)] = [(25, txt (ss ++ [wnum (k : Int)]), [])] := rfl
      rw [this, adL_1, txt_snoc]
theorem ad_is {ss : List (List Int)} {M K2 : List Nat} : ∀ (f k : Nat) (os : Option (List (List ND))), k + f = K2.length → adF U K2 (txt ss) M f k os = adL (toO ss (adP (K2.map (sg U)) M f k)) os
  | 0, k, os, _ => rfl
  | f + 1, k, os, h => by
    show adF U K2 (txt ss) M f (k + 1) (if k ∈ M then os else addS os 26 (txt ss ++ 47 :: wnum (k : Int)) [sg U (K2.getD k 0)]) = adL (toO ss ((if k ∈ M then [] else [(26, [wnum (k : Int)], [(K2.map (sg U)).getD k []])]) ++ adP (K2.map (sg U)) M f (k + 1))) os
    rw [ad_is f (k + 1) _ (by omega), toO_app, adL_app]
    by_cases c : k ∈ M
    · rw [if_pos c, if_pos c]
      rfl
    · rw [if_neg c, if_neg c]
      have e1 : (K2.map (sg U)).getD k [] = sg U (K2.getD k 0) := by
        rw [List.getD_eq_getElem?_getD, List.getD_eq_getElem?_getD, List.getElem?_map, List.getElem?_eq_getElem (by omega)]
        rfl
      have : toO ss [((26, [wnum (k : Int)], [(K2.map (sg U)).getD k []]) : SEG)] = [(26, txt (ss ++ [wnum (k : Int)]), [(K2.map (sg U)).getD k []])] := rfl
      rw [this, adL_1, txt_snoc, e1]
theorem mkP_cg {e1 e2 : Nat → Nat → Bool} {n m : Nat} (h : ∀ a b, a < n → b < m → e1 a b = e2 a b) : ∀ (f a b : Nat), lcF e1 n m f a b = lcF e2 n m f a b
  | 0, _, _ => rfl
  | f + 1, a, b => by
    unfold lcF
    by_cases c : n ≤ a ∨ m ≤ b
    · rw [if_pos c, if_pos c]
    · rw [if_neg c, if_neg c, h a b (by omega) (by omega), mkP_cg h f, mkP_cg h f, mkP_cg h f]
theorem mkP_cg2 {e1 e2 : Nat → Nat → Bool} {n m : Nat} (h : ∀ a b, a < n → b < m → e1 a b = e2 a b) : ∀ (f a b : Nat), mkP e1 n m f a b = mkP e2 n m f a b
  | 0, _, _ => rfl
  | f + 1, a, b => by
    rw [mkP_s, mkP_s]
    by_cases c : n ≤ a ∨ m ≤ b
    · rw [if_pos c, if_pos c]
    · rw [if_neg c, if_neg c, h a b (by omega) (by omega), mkP_cg2 h f, mkP_cg2 h f, mkP_cg2 h f]
      unfold lcV
      rw [mkP_cg h, mkP_cg h]
theorem row_is (hV : TR V ∧ PZL V) (hU : TR U ∧ PZL U) {ss : List (List Int)} {i j : Nat} (hi : i < V.length) (hj : j < U.length) (os : Option (List (List ND))) : btR V U (txt ss) i j os = adL (toO ss (rowP (kd (sg V i)) (kd (sg U j)))) os := by
  have hz := pz_l hV.2
  have hzu := pz_l hU.2
  rw [kd_sg hV.2 hV.1.1 hi, kd_sg hU.2 hU.1.1 hj]
  unfold btR rowP
  rw [toO_app, adL_app, ← rv_is, ← ad_is _ _ _ (by rw [List.length_map]; omega), List.length_map, List.length_map]
  have e : ∀ a b, a < (kids V i).length → b < (kids U j).length → eqV V U (kids V i) (kids U j) a b = eqN ((kids V i).map (sg V)) ((kids U j).map (sg U)) a b := fun a b ha hb => by
    have m1 : (kids U j).getD b 0 < U.length := kids_in hU.1.1 hzu hj (gDn_mem hb)
    unfold eqV eqN smJ
    rw [if_pos (by omega), Int.toNat_natCast]
    rw [List.getD_eq_getElem?_getD (l := (kids V i).map (sg V)), List.getD_eq_getElem?_getD (l := (kids U j).map (sg U)), List.getElem?_map, List.getElem?_map, List.getD_eq_getElem?_getD, List.getD_eq_getElem?_getD, List.getElem?_eq_getElem ha, List.getElem?_eq_getElem hb]
    rfl
  rw [mkP_cg2 e]
theorem bt_is (hV : TR V ∧ PZL V) (hU : TR U ∧ PZL U) : ∀ (f : Nat) (ss : List (List Int)) (i j : Nat) (os : Option (List (List ND))), i < V.length → j < U.length → btF V U f (txt ss) i j os = adL (toO ss (ptN f (sg V i) (sg U j))) os
  | 0, ss, i, j, os, _, _ => rfl
  | f + 1, ss, i, j, os, hi, hj => by
    have r1 : rk (sg V i) = nk V i := rk_sg hi (pz_l hV.2 i)
    have r2 : rk (sg U j) = nk U j := rk_sg hj (pz_l hU.2 j)
    have e : smJ 13 V i U (j : Int) = smF 13 (sg V i) (sg U j) := by unfold smJ; rw [if_pos (by omega), Int.toNat_natCast]
    rw [btF_s, e]
    show _ = adL (toO ss (if smF 13 (sg V i) (sg U j) then [] else if rk (sg V i) = 5 ∧ rk (sg U j) = 5 then _ else if rk (sg V i) = 4 ∧ rk (sg U j) = 4 then _ else _)) os
    rw [r1, r2]
    by_cases c : smF 13 (sg V i) (sg U j) = true
    · rw [if_pos c, if_pos c]
      rfl
    rw [if_neg c, if_neg c]
    by_cases c5 : nk V i = 5 ∧ nk U j = 5
    · rw [if_pos c5, if_pos c5, toO_app, toO_app, adL_app, adL_app]
      rw [kd_sg hV.2 hV.1.1 hi]
      rw [← rm_is hV hU hi hj c5.1 c5.2 (kids V i) os (fun c hc => hc)]
      rw [← gn_is hV hU (g := btF V U f) (p := ptN f) (fun ss c k os hc hk => bt_is hV hU f ss c k os hc hk) hi hj c5.1 c5.2 (kids V i) _ (fun c hc => hc)]
      rw [← kd_sg hV.2 hV.1.1 hi, kd_sg hU.2 hU.1.1 hj]
      rw [← an_is hV hU hi hj c5.1 c5.2 (kids U j) _ (fun c hc => hc)]
    rw [if_neg c5, if_neg c5]
    by_cases c4 : nk V i = 4 ∧ nk U j = 4
    · rw [if_pos c4, if_pos c4]
      exact row_is hV hU hi hj os
    · rw [if_neg c4, if_neg c4]
      have : toO ss [((21, [], [sg U j]) : SEG)] = [(21, txt (ss ++ []), [sg U j])] := rfl
      rw [this, adL_1, List.append_nil]
theorem pt_is (hV : TR V ∧ PZL V) (hU : TR U ∧ PZL U) : ptS V U = adL (toO [] (ptN 13 V U)) (some []) := by
  have a := bt_is hV hU 13 [] 0 0 (some []) hV.1.2.1 hU.1.2.1
  rw [sg_self hV.1, sg_self hU.1] at a
  exact a
end BTP
