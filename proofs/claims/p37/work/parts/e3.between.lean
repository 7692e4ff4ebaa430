/-! PATCHES: of two VALUES -/
def rmF (V U : List ND) (p : List Int) (j : Nat) : List Nat → Option (List (List ND)) → Option (List (List ND))
  | [], os => os
  | c :: K, os => rmF V U p j K (if vLk U (j : Int) (nq V c) = -1 then addS os 25 (p ++ stp V c) [] else os)
def gnF (g : List Int → Nat → Nat → Option (List (List ND)) → Option (List (List ND))) (V U : List ND) (p : List Int) (j : Nat) : List Nat → Option (List (List ND)) → Option (List (List ND))
  | [], os => os
  | c :: K, os => gnF g V U p j K (if vLk U (j : Int) (nq V c) = -1 then os else g (p ++ stp V c) c (vLk U (j : Int) (nq V c)).toNat os)
def anF (V U : List ND) (p : List Int) (i : Nat) : List Nat → Option (List (List ND)) → Option (List (List ND))
  | [], os => os
  | c :: K, os => anF V U p i K (if vLk V (i : Int) (nq U c) = -1 then addS os 26 (p ++ stp U c) [sg U c] else os)
/-- ORDERS for two VALUES -/
def btF (V U : List ND) : Nat → List Int → Nat → Nat → Option (List (List ND)) → Option (List (List ND))
  | 0, _, _, _, os => os
  | f + 1, p, i, j, os =>
    if smJ 13 V i U (j : Int) then os
    else if nk V i = 5 ∧ nk U j = 5 then anF V U p i (kids U j) (gnF (btF V U f) V U p j (kids V i) (rmF V U p j (kids V i) os))
    else if nk V i = 4 ∧ nk U j = 4 then btR V U p i j os
    else addS os 21 p [sg U j]
/-- all ORDERS from a DOCUMENT to another one -/
def ptS (V U : List ND) : Option (List (List ND)) := btF V U 13 [] 0 0 (some [])
theorem btF_s {V U : List ND} {f : Nat} {p : List Int} {i j : Nat} {os : Option (List (List ND))} : btF V U (f + 1) p i j os = if smJ 13 V i U (j : Int) then os
    else if nk V i = 5 ∧ nk U j = 5 then anF V U p i (kids U j) (gnF (btF V U f) V U p j (kids V i) (rmF V U p j (kids V i) os))
    else if nk V i = 4 ∧ nk U j = 4 then btR V U p i j os
    else addS os 21 p [sg U j] := rfl
section BET
variable {S S0 : GS} {cA cB d : Nat} {V U : List ND}
/-- a STEP behind the PATH, one thing, and back -/
theorem or_step {cT : Nat} {T : List ND} {c : Nat} {p : List Int} {os os1 : Option (List (List ND))} {one : Nat → GS → Option (Int × GS)} {m : Nat → GS → Option (Int × GS)} {Q : Int → GS → Prop} (hA : gT cA ∧ cA < 320) (hB : gT cB ∧ cB < 320) (hT : gT cT) (hd : 10 ≤ d) (hw : WF T) (hc : c < T.length) (hpl : p.length ≤ 370) (h : OrS cA cB V U p os S0 S) (hv : TV S cT T) (ho : ∀ S1, OrS cA cB V U (p ++ stp T c) os S0 S1 → Ev (fun n => one n S1) (fun _ S2 => OrS cA cB V U (p ++ stp T c) os1 S0 S2)) (nx : ∀ S1, OrS cA cB V U p os1 S0 S1 → Ev (fun n => m n S1) Q) : Ev (fun n => gc (f_X10_stepTo n (d - 1) 0 S [((cT : Nat) : Int), (c : Int), ((446 : Nat) : Int)]) fun _ S_34 => gc (one n S_34) fun _ S_41 => gc (f_X9_shorten n (d - 1) 0 S_41 [((446 : Nat) : Int), (p.length : Int)]) fun _ S_44 => m n S_44) Q := by
  have sl := stp_len hv c hc
  refine ev_gc (t_stepTo (d := d - 1) (s := 446) hT gSh446 (by omega) hv hw hc (sx_rf h.2.2.2.2.2 h.2.2.1.1) (by show _ ≤ 400; omega)) (fun _ S1 s1 => ?_)
  have hp2 : ∀ x ∈ p ++ stp T c, x < 256 := fun x hx => by
    rcases List.mem_append.mp hx with w | w
    · exact h.2.2.1.2 x w
    · exact (stp_r hv c hc x w).2
  have h1 := os_sx hA hB h s1 hp2
  refine ev_gc (ho S1 h1) (fun _ S2 h2 => ?_)
  refine ev_gc (s9_shorten (d := d - 1) (k := p.length) gSh446 (sx_rf h2.2.2.2.2.2 h2.2.2.1.1) (by simp)) (fun _ S3 s3 => ?_)
  rw [List.take_left' rfl] at s3
  exact nx S3 (os_sx hA hB h2 s3 h.2.2.1.2)
/-- what making ORDERS for two VALUES comes to -/
def BtC (cA cB : Nat) (V U : List ND) (S0 : GS) (f d : Nat) : Prop := ∀ (S : GS) (p : List Int) (i j : Nat) (os : Option (List (List ND))), p.length + 25 * f ≤ 330 → i < V.length → j < U.length → OrS cA cB V U p os S0 S → Ev (fun n => f_X5_between n d 0 S [(i : Int), (j : Int), 13 - (f : Int)]) (fun _ S1 => OrS cA cB V U p (btF V U f p i j os) S0 S1)
theorem or_223 {p : List Int} {i j : Nat} (hA : gT cA ∧ cA < 320) (hB : gT cB ∧ cB < 320) (hd : 20 ≤ d) (hV : WF V) (hU : WF U) (hi : i < V.length) (hj : j < U.length) (hpl : p.length ≤ 330) : ∀ (m e : Nat) (n0 : Int) (S : GS) (os : Option (List (List ND))), j + nz U j - e < m → j < e → 0 ≤ n0 → n0 + ((j + nz U j - e : Nat) : Int) ≤ 99 → OrS cA cB V U p os S0 S → Ev (fun q => f_X5_between q d 10223 S [(i : Int), (j : Int), (p.length : Int), cur e (j + nz U j), n0]) (fun _ S1 => OrS cA cB V U p (anF V U p i (ks U e (j + nz U j)) os) S0 S1) := by
  intro m
  induction m with
  | zero => intros; omega
  | succ m ih =>
    intro e n0 S os h1 h2 h3 h4 h
    have zV : PZ V := pz_l (nr_pzl h.2.1.1.1.2.2.2)
    have zU : PZ U := pz_l (nr_pzl h.2.1.2.1.2.2.2)
    have lV : V.length ≤ 100 := tv_l h.2.1.1.1
    have lU : U.length ≤ 100 := tv_l h.2.1.2.1
    have wj := hU.1 j hj
    by_cases he : e < j + nz U j
    · have we := hU.2.1 j e h2 he
      have ze := zU e
      have eU : e < U.length := by omega
      rw [ks_cons zU he, show cur e (j + nz U j) = (e : Int) from if_pos he]
      show Ev _ (fun _ S1 => OrS cA cB V U p (anF V U p i (ks U (e + nz U e) (j + nz U j)) (if vLk V (i : Int) (nq U e) = -1 then addS os 26 (p ++ stp U e) [sg U e] else os)) S0 S1)
      -- the next one
      have nx : ∀ (os' : Option (List (List ND))) (S2 : GS), OrS cA cB V U p os' S0 S2 → Ev (fun q => f_X5_between q d 10295 S2 [(i : Int), (j : Int), (p.length : Int), (e : Int), n0]) (fun _ S1 => OrS cA cB V U p (anF V U p i (ks U (e + nz U e) (j + nz U j)) os') S0 S1) := by
        intro os' S2 h2'
        refine ev_up (fun n => e_X5_betweenMaps_295) ?_
        unfold b_X5_betweenMaps_295
        rw [h2'.1.2.2]
        refine ev_gv ?_
        refine ev_gg (by omega) ?_
        refine ev_gg hB.1 ?_
        refine ev_gcr (t_next (V := U) (d := d - 1) hB.1 h2'.2.1.2.1 hU h2 he hj) ?_
        refine ev_gv ?_
        exact ih (e + nz U e) (n0 + 1) S2 os' (by omega) (by omega) (by omega) (by omega) h2'
      have vl := t_valueLike (V := V) (U := U) (d := d - 1) (g := (i : Int)) (c2 := cB) (j := e) hA.1 h.2.1.1.1 hV (by constructor <;> omega) (by omega) hB.1 h.2.1.2.1 eU
      have vr := vLk_r hV zV (i : Int) (nq U e)
      refine ev_up (fun n => e_X5_betweenMaps_223) ?_
      unfold b_X5_betweenMaps_223
      refine ev_gg (by constructor <;> omega) ?_
      refine ev_ite (fun z => by omega) (fun _ => ?_)
      refine ev_gg (by constructor <;> omega) ?_
      refine ev_ite (fun z => by omega) (fun _ => ?_)
      rw [h.1.2.1, h.1.2.2]
      refine ev_gv ?_
      refine ev_gv ?_
      refine ev_gg (by omega) ?_
      refine ev_gg hA.1 ?_
      refine ev_gcr vl ?_
      refine ev_gg (by rcases vr with z | z <;> constructor <;> omega) ?_
      by_cases c : vLk V (i : Int) (nq U e) = -1
      · rw [if_pos c]
        refine ev_ite (fun z => absurd c z) (fun _ => ?_)
        rw [h.1.2.2]
        refine ev_gv ?_
        refine ev_gg hB.1 ?_
        refine or_step (d := d) (cT := cB) (T := U) (c := e) (os1 := addS os 26 (p ++ stp U e) [sg U e]) (one := fun n S_20 => gv (S_20.2.2 477 5) fun z22 => gv (S_20.2.2 477 7) fun z24 => f_X5_add n (d - 1) 0 S_20 [((z22 : Nat) : Int), ((26 : Nat) : Int), ((446 : Nat) : Int), ((z24 : Nat) : Int), (e : Int)]) (m := fun n S_30 => f_X5_between n d 10295 S_30 [(i : Int), (j : Int), (p.length : Int), (e : Int), n0]) hA hB hB.1 (by omega) hU eU (by omega) h h.2.1.2.1 (fun S1 q1 => ?_) (fun S1 q1 => nx _ S1 q1)
        rw [q1.1.1, q1.1.2.2]
        refine ev_gv ?_
        refine ev_gv ?_
        refine ev_mono (or_one (d := d - 1) (op := 26) (v := (e : Int)) (by decide) hB.1 hB.2 (by omega) q1.2.1.2 hU (Or.inr (by omega)) q1.2.2.1.1 q1.2.2.1.2 q1.2.2.2.1 q1.2.2.2.2.2) (fun _ S2 q2 => ?_)
        have ev : vL U (e : Int) = [sg U e] := by unfold vL; rw [if_neg (by omega), Int.toNat_natCast]
        rw [ev] at q2
        exact os_add hA hB q1 q2.1 q2.2.1 q2.2.2
      · rw [if_neg c]
        refine ev_ite (fun _ => ?_) (fun z => absurd (fun w => c w) z)
        exact nx os S h
    · rw [ks_nil (by omega), show cur e (j + nz U j) = -1 from if_neg he]
      refine ev_up (fun n => e_X5_betweenMaps_223) ?_
      unfold b_X5_betweenMaps_223
      repeat' (first
        | with_reducible refine ev_gv ?_
        | with_reducible refine ev_gg ?_ ?_
        | with_reducible refine ev_ite (fun _ => ?_) (fun _ => ?_)
        | omega
        | assumption)
      exact ev_ret h
theorem or_124 {f : Nat} {p : List Int} {i j : Nat} (ihf : BtC cA cB V U S0 f (d - 1)) (hA : gT cA ∧ cA < 320) (hB : gT cB ∧ cB < 320) (hd : 20 ≤ d) (hV : WF V) (hU : WF U) (hi : i < V.length) (hj : j < U.length) (hpl : p.length + 25 * (f + 1) ≤ 330) (hf : f ≤ 12) : ∀ (m e : Nat) (n : Int) (S : GS) (os : Option (List (List ND))), i + nz V i - e < m → i < e → 0 ≤ n → n + ((i + nz V i - e : Nat) : Int) ≤ 99 → OrS cA cB V U p os S0 S → Ev (fun q => f_X5_between q d 10124 S [(i : Int), (j : Int), 12 - (f : Int), (p.length : Int), cur e (i + nz V i), n]) (fun _ S1 => OrS cA cB V U p (anF V U p i (kids U j) (gnF (btF V U f) V U p j (ks V e (i + nz V i)) os)) S0 S1) := by
  intro m
  induction m with
  | zero => intros; omega
  | succ m ih =>
    intro e n S os h1 h2 h3 h4 h
    have zV : PZ V := pz_l (nr_pzl h.2.1.1.1.2.2.2)
    have zU : PZ U := pz_l (nr_pzl h.2.1.2.1.2.2.2)
    have lV : V.length ≤ 100 := tv_l h.2.1.1.1
    have lU : U.length ≤ 100 := tv_l h.2.1.2.1
    have wi := hV.1 i hi
    have wj := hU.1 j hj
    have zj := zU j
    by_cases he : e < i + nz V i
    · have we := hV.2.1 i e h2 he
      have ze := zV e
      have eV : e < V.length := by omega
      rw [ks_cons zV he, show cur e (i + nz V i) = (e : Int) from if_pos he]
      show Ev _ (fun _ S1 => OrS cA cB V U p (anF V U p i (kids U j) (gnF (btF V U f) V U p j (ks V (e + nz V e) (i + nz V i)) (if vLk U (j : Int) (nq V e) = -1 then os else btF V U f (p ++ stp V e) e (vLk U (j : Int) (nq V e)).toNat os))) S0 S1)
      have nx : ∀ (os' : Option (List (List ND))) (S2 : GS), OrS cA cB V U p os' S0 S2 → Ev (fun q => f_X5_between q d 10192 S2 [(i : Int), (j : Int), 12 - (f : Int), (p.length : Int), (e : Int), n]) (fun _ S1 => OrS cA cB V U p (anF V U p i (kids U j) (gnF (btF V U f) V U p j (ks V (e + nz V e) (i + nz V i)) os')) S0 S1) := by
        intro os' S2 h2'
        refine ev_up (fun n => e_X5_betweenMaps_192) ?_
        unfold b_X5_betweenMaps_192
        rw [h2'.1.2.1]
        refine ev_gv ?_
        refine ev_gg (by omega) ?_
        refine ev_gg hA.1 ?_
        refine ev_gcr (t_next (V := V) (d := d - 1) hA.1 h2'.2.1.1.1 hV h2 he hi) ?_
        refine ev_gv ?_
        exact ih (e + nz V e) (n + 1) S2 os' (by omega) (by omega) (by omega) (by omega) h2'
      have vl := t_valueLike (V := U) (U := V) (d := d - 1) (g := (j : Int)) (c2 := cA) (j := e) hB.1 h.2.1.2.1 hU (by constructor <;> omega) (by omega) hA.1 h.2.1.1.1 eV
      have vr := vLk_r hU zU (j : Int) (nq V e)
      refine ev_up (fun n => e_X5_betweenMaps_124) ?_
      unfold b_X5_betweenMaps_124
      refine ev_gg (by constructor <;> omega) ?_
      refine ev_ite (fun z => by omega) (fun _ => ?_)
      refine ev_gg (by constructor <;> omega) ?_
      refine ev_ite (fun z => by omega) (fun _ => ?_)
      rw [h.1.2.1, h.1.2.2]
      refine ev_gv ?_
      refine ev_gv ?_
      refine ev_gg (by omega) ?_
      refine ev_gg hB.1 ?_
      refine ev_gcr vl ?_
      refine ev_gg (by rcases vr with z | z <;> constructor <;> omega) ?_
      by_cases c : vLk U (j : Int) (nq V e) = -1
      · rw [if_pos c]
        refine ev_ite (fun _ => ?_) (fun z => absurd c z)
        exact nx os S h
      · rw [if_neg c]
        refine ev_ite (fun z => absurd z c) (fun _ => ?_)
        obtain ⟨u, hu⟩ : ∃ u : Nat, vLk U (j : Int) (nq V e) = (u : Int) := ⟨(vLk U (j : Int) (nq V e)).toNat, by rcases vr with z | z <;> omega⟩
        have ul : u < U.length := by rcases vr with z | z <;> omega
        have sle : (stp V e).length ≤ 25 := stp_len h.2.1.1.1 e eV
        rw [h.1.2.1]
        refine ev_gv ?_
        refine ev_gg hA.1 ?_
        rw [hu, Int.toNat_natCast]
        refine or_step (d := d) (cT := cA) (T := V) (c := e) (os1 := btF V U f (p ++ stp V e) e u os) (one := fun n S_34 => gv (12 - (f : Int) + 1) fun x36 => f_X5_between n (d - 1) 0 S_34 [(e : Int), (u : Int), x36]) (m := fun q S_42 => f_X5_between q d 10192 S_42 [(i : Int), (j : Int), 12 - (f : Int), (p.length : Int), (e : Int), n]) hA hB hA.1 (by omega) hV eV (by omega) h h.2.1.1.1 (fun S1 q1 => ?_) (fun S1 q1 => nx _ S1 q1)
        refine ev_gv ?_
        rw [show 12 - (f : Int) + 1 = 13 - (f : Int) by omega]
        exact ihf S1 (p ++ stp V e) e u os (by rw [List.length_append]; omega) eV ul q1
    · rw [ks_nil (by omega), show cur e (i + nz V i) = -1 from if_neg he]
      have k := or_223 (d := d) (S0 := S0) hA hB hd hV hU hi hj (by omega) _ (j + 1) 0 S os (Nat.lt_succ_self _) (by omega) (by decide) (by omega) h
      refine ev_up (fun n => e_X5_betweenMaps_124) ?_
      unfold b_X5_betweenMaps_124
      refine ev_gg (by decide) ?_
      refine ev_ite (fun _ => ?_) (fun z => absurd rfl z)
      rw [h.1.2.2]
      refine ev_gv ?_
      refine ev_gg (by omega) ?_
      refine ev_gg hB.1 ?_
      refine ev_gcr (t_first (V := U) (d := d - 1) hB.1 h.2.1.2.1 hU hj) ?_
      exact k
theorem or_22 {f : Nat} {p : List Int} {i j : Nat} (ihf : BtC cA cB V U S0 f (d - 1)) (hA : gT cA ∧ cA < 320) (hB : gT cB ∧ cB < 320) (hd : 20 ≤ d) (hV : WF V) (hU : WF U) (hi : i < V.length) (hj : j < U.length) (hpl : p.length + 25 * (f + 1) ≤ 330) (hf : f ≤ 12) : ∀ (m e : Nat) (n : Int) (S : GS) (os : Option (List (List ND))), i + nz V i - e < m → i < e → 0 ≤ n → n + ((i + nz V i - e : Nat) : Int) ≤ 99 → OrS cA cB V U p os S0 S → Ev (fun q => f_X5_between q d 10022 S [(i : Int), (j : Int), 12 - (f : Int), (p.length : Int), cur e (i + nz V i), n]) (fun _ S1 => OrS cA cB V U p (anF V U p i (kids U j) (gnF (btF V U f) V U p j (kids V i) (rmF V U p j (ks V e (i + nz V i)) os))) S0 S1) := by
  intro m
  induction m with
  | zero => intros; omega
  | succ m ih =>
    intro e n S os h1 h2 h3 h4 h
    have zV : PZ V := pz_l (nr_pzl h.2.1.1.1.2.2.2)
    have zU : PZ U := pz_l (nr_pzl h.2.1.2.1.2.2.2)
    have lV : V.length ≤ 100 := tv_l h.2.1.1.1
    have lU : U.length ≤ 100 := tv_l h.2.1.2.1
    have wi := hV.1 i hi
    have zi := zV i
    by_cases he : e < i + nz V i
    · have we := hV.2.1 i e h2 he
      have ze := zV e
      have eV : e < V.length := by omega
      rw [ks_cons zV he, show cur e (i + nz V i) = (e : Int) from if_pos he]
      show Ev _ (fun _ S1 => OrS cA cB V U p (anF V U p i (kids U j) (gnF (btF V U f) V U p j (kids V i) (rmF V U p j (ks V (e + nz V e) (i + nz V i)) (if vLk U (j : Int) (nq V e) = -1 then addS os 25 (p ++ stp V e) [] else os)))) S0 S1)
      have nx : ∀ (os' : Option (List (List ND))) (S2 : GS), OrS cA cB V U p os' S0 S2 → Ev (fun q => f_X5_between q d 10093 S2 [(i : Int), (j : Int), 12 - (f : Int), (p.length : Int), (e : Int), n]) (fun _ S1 => OrS cA cB V U p (anF V U p i (kids U j) (gnF (btF V U f) V U p j (kids V i) (rmF V U p j (ks V (e + nz V e) (i + nz V i)) os'))) S0 S1) := by
        intro os' S2 h2'
        refine ev_up (fun n => e_X5_betweenMaps_93) ?_
        unfold b_X5_betweenMaps_93
        rw [h2'.1.2.1]
        refine ev_gv ?_
        refine ev_gg (by omega) ?_
        refine ev_gg hA.1 ?_
        refine ev_gcr (t_next (V := V) (d := d - 1) hA.1 h2'.2.1.1.1 hV h2 he hi) ?_
        refine ev_gv ?_
        exact ih (e + nz V e) (n + 1) S2 os' (by omega) (by omega) (by omega) (by omega) h2'
      have vl := t_valueLike (V := U) (U := V) (d := d - 1) (g := (j : Int)) (c2 := cA) (j := e) hB.1 h.2.1.2.1 hU (by constructor <;> omega) (by omega) hA.1 h.2.1.1.1 eV
      have vr := vLk_r hU zU (j : Int) (nq V e)
      refine ev_up (fun n => e_X5_betweenMaps_22) ?_
      unfold b_X5_betweenMaps_22
      refine ev_gg (by constructor <;> omega) ?_
      refine ev_ite (fun z => by omega) (fun _ => ?_)
      refine ev_gg (by constructor <;> omega) ?_
      refine ev_ite (fun z => by omega) (fun _ => ?_)
      rw [h.1.2.2, h.1.2.1]
      refine ev_gv ?_
      refine ev_gv ?_
      refine ev_gg (by omega) ?_
      refine ev_gg hB.1 ?_
      refine ev_gcr vl ?_
      refine ev_gg (by rcases vr with z | z <;> constructor <;> omega) ?_
      by_cases c : vLk U (j : Int) (nq V e) = -1
      · rw [if_pos c]
        refine ev_ite (fun z => absurd c z) (fun _ => ?_)
        rw [h.1.2.1]
        refine ev_gv ?_
        refine ev_gg hA.1 ?_
        refine or_step (d := d) (cT := cA) (T := V) (c := e) (os1 := addS os 25 (p ++ stp V e) []) (one := fun n S_34 => gv (S_34.2.2 477 5) fun z36 => gv (S_34.2.2 477 6) fun z38 => f_X5_add n (d - 1) 0 S_34 [((z36 : Nat) : Int), ((25 : Nat) : Int), ((446 : Nat) : Int), ((z38 : Nat) : Int), (-1)]) (m := fun q S_44 => f_X5_between q d 10093 S_44 [(i : Int), (j : Int), 12 - (f : Int), (p.length : Int), (e : Int), n]) hA hB hA.1 (by omega) hV eV (by omega) h h.2.1.1.1 (fun S1 q1 => ?_) (fun S1 q1 => nx _ S1 q1)
        rw [q1.1.1, q1.1.2.1]
        refine ev_gv ?_
        refine ev_gv ?_
        refine ev_mono (or_one (U := V) (d := d - 1) (op := 25) (v := -1) (by decide) hA.1 hA.2 (by omega) q1.2.1.1 hV (Or.inl rfl) q1.2.2.1.1 q1.2.2.1.2 q1.2.2.2.1 q1.2.2.2.2.2) (fun _ S2 q2 => ?_)
        have ev : vL V (-1) = [] := by unfold vL; rw [if_pos rfl]
        rw [ev] at q2
        exact os_add hA hB q1 q2.1 q2.2.1 q2.2.2
      · rw [if_neg c]
        refine ev_ite (fun _ => ?_) (fun z => absurd (fun w => c w) z)
        exact nx os S h
    · rw [ks_nil (by omega), show cur e (i + nz V i) = -1 from if_neg he]
      have k := or_124 (d := d) (S0 := S0) ihf hA hB hd hV hU hi hj hpl hf _ (i + 1) 0 S os (Nat.lt_succ_self _) (by omega) (by decide) (by omega) h
      refine ev_up (fun n => e_X5_betweenMaps_22) ?_
      unfold b_X5_betweenMaps_22
      refine ev_gg (by decide) ?_
      refine ev_ite (fun _ => ?_) (fun z => absurd rfl z)
      rw [h.1.2.1]
      refine ev_gv ?_
      refine ev_gg (by omega) ?_
      refine ev_gg hA.1 ?_
      refine ev_gcr (t_first (V := V) (d := d - 1) hA.1 h.2.1.1.1 hV hi) ?_
      exact k
theorem or_between (hA : gT cA ∧ cA < 320) (hB : gT cB ∧ cB < 320) (hV : WF V) (hU : WF U) : ∀ (f d : Nat), f ≤ 13 → 2 * f + 40 ≤ d → BtC cA cB V U S0 f d := by
  intro f
  induction f with
  | zero =>
    intro d hf hd S p i j os hp hi hj h
    have lU : U.length ≤ 100 := tv_l h.2.1.2.1
    have sm := t_same (S := S) (c := cA) (c2 := cB) (V := V) (U := U) hA.1 hB.1 h.2.1.1.1 h.2.1.2.1 hV hU 13 i (d - 1) (j : Int) (Nat.le_refl _) hi (by constructor <;> omega) (by omega)
    rw [show (13 : Int) - ((13 : Nat) : Int) = 0 by decide] at sm
    refine ev_up (fun n => e_X5_between_0) ?_
    unfold b_X5_between_0
    rw [h.1.2.1, h.1.2.2]
    refine ev_gv ?_
    refine ev_gv ?_
    refine ev_gg (by omega) ?_
    refine ev_gg hA.1 ?_
    refine ev_gcr sm ?_
    refine ev_gg (by split <;> decide) ?_
    refine ev_ite (fun _ => ?_) (fun _ => ?_)
    · exact ev_ret h
    · refine ev_gg (by decide) ?_
      refine ev_ite (fun z => absurd z (by decide)) (fun _ => ?_)
      exact ev_ret h
  | succ f ih =>
    intro d hf hd S p i j os hp hi hj h
    have lV : V.length ≤ 100 := tv_l h.2.1.1.1
    have lU : U.length ≤ 100 := tv_l h.2.1.2.1
    have zV : PZ V := pz_l (nr_pzl h.2.1.1.1.2.2.2)
    have wi := hV.1 i hi
    have zi := zV i
    have sm := t_same (S := S) (c := cA) (c2 := cB) (V := V) (U := U) hA.1 hB.1 h.2.1.1.1 h.2.1.2.1 hV hU 13 i (d - 1) (j : Int) (Nat.le_refl _) hi (by constructor <;> omega) (by omega)
    rw [show (13 : Int) - ((13 : Nat) : Int) = 0 by decide] at sm
    rw [btF_s]
    have eA : ∀ k : Int, isI V (i : Int) k = if nk V i = k then 1 else 0 := fun k => by
      unfold isI
      by_cases q : nk V i = k
      · rw [if_pos q, if_pos ⟨by omega, by rw [Int.toNat_natCast]; exact q⟩]
      · rw [if_neg q, if_neg (fun z => q (by have := z.2; rwa [Int.toNat_natCast] at this))]
    have eB : ∀ k : Int, isI U (j : Int) k = if nk U j = k then 1 else 0 := fun k => by
      unfold isI
      by_cases q : nk U j = k
      · rw [if_pos q, if_pos ⟨by omega, by rw [Int.toNat_natCast]; exact q⟩]
      · rw [if_neg q, if_neg (fun z => q (by have := z.2; rwa [Int.toNat_natCast] at this))]
    have isA := fun (k : Int) (hk : inr k) => rd_as (t_is (S := S) (V := V) (d := d - 1) (i := (i : Int)) (k := k) hA.1 h.2.1.1.1 (by constructor <;> omega) hk) (eA k)
    have isB := fun (k : Int) (hk : inr k) => rd_as (t_is (S := S) (V := U) (d := d - 1) (i := (j : Int)) (k := k) hB.1 h.2.1.2.1 (by constructor <;> omega) hk) (eB k)
    -- to replace
    have repl : Ev (fun n => f_X5_between n d 91 S [(j : Int)]) (fun _ S1 => OrS cA cB V U p (addS os 21 p [sg U j]) S0 S1) := by
      refine ev_up (fun n => e_X5_between_91) ?_
      unfold b_X5_between_91
      rw [h.1.1, h.1.2.2]
      refine ev_gv ?_
      refine ev_gv ?_
      refine ev_gg (by omega) ?_
      refine ev_gc (or_one (d := d - 1) (op := 21) (v := (j : Int)) (by decide) hB.1 hB.2 (by omega) h.2.1.2 hU (Or.inr (by omega)) h.2.2.1.1 h.2.2.1.2 h.2.2.2.1 h.2.2.2.2.2) (fun _ S2 q2 => ?_)
      have ev : vL U (j : Int) = [sg U j] := by unfold vL; rw [if_neg (by omega), Int.toNat_natCast]
      rw [ev] at q2
      exact ev_ret (os_add hA hB h q2.1 q2.2.1 q2.2.2)
    -- no MAPS
    have p58 : Ev (fun n => f_X5_between n d 58 S [(i : Int), (j : Int)]) (fun _ S1 => OrS cA cB V U p (if nk V i = 4 ∧ nk U j = 4 then btR V U p i j os else addS os 21 p [sg U j]) S0 S1) := by
      refine ev_up (fun n => e_X5_between_58) ?_
      unfold b_X5_between_58
      rw [h.1.2.1]
      refine ev_gv ?_
      refine ev_gg (by omega) ?_
      refine ev_gg hA.1 ?_
      refine ev_gcr (isA 4 (by decide)) ?_
      by_cases c : nk V i = 4
      · rw [if_pos c]
        refine ev_gg (by decide) ?_
        refine ev_ite (fun z => absurd z (by decide)) (fun _ => ?_)
        rw [h.1.2.2]
        refine ev_gv ?_
        refine ev_gg hB.1 ?_
        refine ev_gcr (isB 4 (by decide)) ?_
        by_cases c' : nk U j = 4
        · rw [if_pos c', if_pos ⟨c, c'⟩]
          refine ev_gg (by decide) ?_
          refine ev_ite (fun z => absurd z (by decide)) (fun _ => ?_)
          refine ev_gc (or_rows (d := d - 1) (S0 := S0) hA hB (by omega) hV hU (by omega) hi hj h) (fun _ S1 q1 => ?_)
          exact ev_ret q1
        · rw [if_neg c', if_neg (fun z => c' z.2)]
          refine ev_gg (by decide) ?_
          refine ev_ite (fun _ => ?_) (fun z => absurd rfl z)
          exact repl
      · rw [if_neg c, if_neg (fun z => c z.1)]
        refine ev_gg (by decide) ?_
        refine ev_ite (fun _ => ?_) (fun z => absurd rfl z)
        exact repl
    refine ev_up (fun n => e_X5_between_0) ?_
    unfold b_X5_between_0
    rw [h.1.2.1, h.1.2.2]
    refine ev_gv ?_
    refine ev_gv ?_
    refine ev_gg (by omega) ?_
    refine ev_gg hA.1 ?_
    refine ev_gcr sm ?_
    by_cases cs : smJ 13 V i U (j : Int) = true
    · rw [if_pos cs, if_pos cs]
      refine ev_gg (by decide) ?_
      refine ev_ite (fun _ => ?_) (fun z => absurd (by decide) z)
      exact ev_ret h
    rw [if_neg cs, if_neg cs]
    refine ev_gg (by decide) ?_
    refine ev_ite (fun z => absurd rfl z) (fun _ => ?_)
    refine ev_gg (by constructor <;> omega) ?_
    refine ev_ite (fun _ => ?_) (fun z => by omega)
    rw [h.1.2.1]
    refine ev_gv ?_
    refine ev_gg hA.1 ?_
    refine ev_gcr (isA 5 (by decide)) ?_
    by_cases c : nk V i = 5
    · rw [if_pos c]
      refine ev_gg (by decide) ?_
      refine ev_ite (fun z => absurd z (by decide)) (fun _ => ?_)
      rw [h.1.2.2]
      refine ev_gv ?_
      refine ev_gg hB.1 ?_
      refine ev_gcr (isB 5 (by decide)) ?_
      by_cases c' : nk U j = 5
      · rw [if_pos c', if_pos ⟨c, c'⟩]
        refine ev_gg (by decide) ?_
        refine ev_ite (fun z => absurd z (by decide)) (fun _ => ?_)
        have maps : Ev (fun n => f_X5_between n (d - 1) 10000 S [(i : Int), (j : Int), 13 - ((f + 1 : Nat) : Int)]) (fun _ S1 => OrS cA cB V U p (anF V U p i (kids U j) (gnF (btF V U f) V U p j (kids V i) (rmF V U p j (kids V i) os))) S0 S1) := by
          rw [show (13 : Int) - ((f + 1 : Nat) : Int) = 12 - (f : Int) by omega]
          have k := or_22 (d := d - 1) (S0 := S0) (ih (d - 1 - 1) (by omega) (by omega)) hA hB (by omega) hV hU hi hj (by omega) (by omega) _ (i + 1) 0 S os (Nat.lt_succ_self _) (by omega) (by decide) (by omega) h
          refine ev_up (fun n => e_X5_betweenMaps_0) ?_
          unfold b_X5_betweenMaps_0
          refine ev_gg (by omega) ?_
          refine ev_gcr (s9_length gSh446 h.2.2.1.1) ?_
          rw [h.1.2.1]
          refine ev_gv ?_
          refine ev_gg hA.1 ?_
          refine ev_gcr (t_first (V := V) (d := d - 1 - 1) hA.1 h.2.1.1.1 hV hi) ?_
          exact k
        refine ev_gc maps (fun _ S1 q1 => ?_)
        exact ev_ret q1
      · rw [if_neg c', if_neg (fun z => c' z.2)]
        refine ev_gg (by decide) ?_
        refine ev_ite (fun _ => ?_) (fun z => absurd rfl z)
        exact p58
    · rw [if_neg c, if_neg (fun z => c z.1)]
      refine ev_gg (by decide) ?_
      refine ev_ite (fun _ => ?_) (fun z => absurd rfl z)
      exact p58
/-- the PATCH from a DOCUMENT to another one, in the tree that is made -/
theorem or_listTo (hA : gT cA ∧ cA < 320) (hB : gT cB ∧ cB < 320) (hd : 70 ≤ d) (hV : WF V) (hU : WF U) (h1 : 1 ≤ V.length) (h2 : 1 ≤ U.length) (hv : TO cA (V, false) S) (hu : TO cB (U, false) S) (hG : Good S) : Ev (fun n => f_X5_listTo n d 0 S [((cA : Nat) : Int), ((cB : Nat) : Int), ((320 : Nat) : Int)]) (fun _ S1 => (match ptS V U with
    | none => ∃ W : TW, W.2 = true ∧ TO 320 W S1
    | some Os => TO 320 (gpN (ndK 4) Os Os.length, false) S1 ∧ ∀ t ∈ Os, TR t ∧ PZL t) ∧ Fr orM S S1 ∧ Good S1) := by
  refine ev_up (fun n => e_X5_listTo_0) ?_
  unfold b_X5_listTo_0
  refine ev_gv ?_
  refine ev_gv ?_
  refine ev_gv ?_
  generalize hS1 : gR (gR (gR S 477 6 cA) 477 7 cB) 477 5 320 = S1
  have f1 : Fr (fun k => k = 477) S S1 := by rw [← hS1]; exact fr_tr (fr_gR rfl) (fr_tr (fr_gR rfl) (fr_gR rfl))
  have G1 : Good S1 := by rw [← hS1]; exact good_gR (good_gR (good_gR hG (by omega)) (by omega)) (by decide)
  have e5 : S1.2.2 477 5 = 320 := by rw [← hS1, gR_a]
  have e6 : S1.2.2 477 6 = cA := by rw [← hS1, gR_k (by decide), gR_k (by decide), gR_a]
  have e7 : S1.2.2 477 7 = cB := by rw [← hS1, gR_k (by decide), gR_a]
  refine ev_gg (by omega) ?_
  refine ev_gc (sx_clear gSh446 G1) (fun _ S2 s2 => ?_)
  have n2 := s2.2.1 477 (by unfold shM; omega)
  rw [show S2.2.2 477 5 = 320 by rw [n2.2.2]; exact e5]
  refine ev_gv ?_
  refine ev_gg gT320 ?_
  refine ev_gc (ty_clear gT320 s2.2.2) (fun _ S3 q3 => ?_)
  have n3 := q3.2.2.1 477 (by unfold trM; omega)
  rw [show S3.2.2 477 5 = 320 by rw [n3.2.2, n2.2.2]; exact e5]
  refine ev_gv ?_
  refine ev_gg gT320 ?_
  refine ev_gc (ty_add (d := d - 1) (k := 4) gT320 q3 (by decide)) (fun x S4 q4 => ?_)
  obtain ⟨rfl, q4⟩ := q4
  have q4' : TY 320 S2 ([ndK 4], false) S4 := q4
  have n4 := q4'.2.2.1 477 (by unfold trM; omega)
  have ha : addA (([] : List ND), false).1 = 0 := rfl
  rw [ha]
  have fr12 : Fr orM S S2 := fr_tr (fr_mono f1 (fun k z => by unfold orM; omega)) (fr_mono s2.2.1 (fun k z => by unfold shM at z; unfold orM; omega))
  have h4 : OrS cA cB V U [] (some []) S S4 := by
    refine ⟨⟨by rw [n4.2.2, n2.2.2]; exact e5, by rw [n4.2.2, n2.2.2]; exact e6, by rw [n4.2.2, n2.2.2]; exact e7⟩, ⟨to_fr (to_fr (to_fr hv f1 (fun k a b => by omega)) s2.2.1 (fun k a b => by unfold shM; omega)) q4'.2.2.1 (fun k a b => by unfold trM; omega), to_fr (to_fr (to_fr hu f1 (fun k a b => by omega)) s2.2.1 (fun k a b => by unfold shM; omega)) q4'.2.2.1 (fun k a b => by unfold trM; omega)⟩, ⟨sv_fr s2.1 q4'.2.2.1 (by unfold trM; omega) (by unfold trM; omega), fun x hx => by cases hx⟩, ⟨to_ty q4', fun t ht => by cases ht⟩, fr_tr fr12 (fr_mono q4'.2.2.1 (fun k z => Or.inl z)), q4'.2.2.2⟩
  have bt := or_between (S0 := S) hA hB hV hU 13 (d - 1) (Nat.le_refl _) (by omega) S4 [] 0 0 (some []) (by decide) (by omega) (by omega) h4
  rw [show (13 : Int) - ((13 : Nat) : Int) = 0 by decide] at bt
  refine ev_gc bt (fun _ S5 q5 => ?_)
  rw [q5.1.1]
  refine ev_gv ?_
  refine ev_gg gT320 ?_
  have ls := q5.2.2.2.1
  have fin : ∀ W : TW, TO 320 W S5 → Ev (fun n => gc (f_X10_close n (d - 1) 0 S5 [((320 : Nat) : Int), 0]) fun _ S_30 => some (0, S_30)) (fun _ S1 => TO 320 (clo W 0) S1 ∧ Fr orM S S1 ∧ Good S1) := by
    intro W hW
    refine ev_gc (ty_close (d := d - 1) (i := 0) gT320 (by omega) (ty_to hW q5.2.2.2.2.2) (by decide)) (fun _ S6 q6 => ?_)
    exact ev_ret ⟨to_ty q6, fr_tr q5.2.2.2.2.1 (fr_mono q6.2.2.1 (fun k z => Or.inl z)), q6.2.2.2⟩
  have ep : btF V U 13 [] 0 0 (some []) = ptS V U := rfl
  rw [ep] at ls
  cases hp : ptS V U with
  | none =>
    rw [hp] at ls
    obtain ⟨W, w1, w2⟩ := ls
    exact ev_mono (fin W w2) (fun _ S6 q => ⟨⟨clo W 0, by rw [clo_2]; exact w1, q.1⟩, q.2⟩)
  | some Os =>
    rw [hp] at ls
    refine ev_mono (fin _ ls.1) (fun _ S6 q => ⟨⟨?_, ls.2⟩, q.2⟩)
    have e : clo ([] ++ gpN (ndK 4) Os 0, false) ((([] : List ND).length : Nat) : Int) = ([] ++ gpN (ndK 4) Os Os.length, false) := clo_gp
    have q1 := q.1
    rw [show clo (gpN (ndK 4) Os 0, false) 0 = (gpN (ndK 4) Os Os.length, false) from e] at q1
    exact q1
end BET
