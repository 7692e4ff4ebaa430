/-! Like KEYS are one: how deep one looks does not matter -/
theorem foldl_mem {α β : Type} {f g : β → α → β} : ∀ (L : List α) (e : β), (∀ a ∈ L, ∀ e, f e a = g e a) → L.foldl f e = L.foldl g e
  | [], _, _ => rfl
  | a :: L, e, h => by
    rw [List.foldl_cons, List.foldl_cons, h a List.mem_cons_self e]
    exact foldl_mem L _ (fun b hb => h b (List.mem_cons_of_mem _ hb))
theorem nrH_fuel {h : Bool} : ∀ (f g : Nat) (T : List ND), TR T ∧ PZL T → (∀ r, dpS r T ≤ (f : Int)) → f ≤ g → nrH h g T = nrH h f T
  | 0, 0, _, _, _, _ => rfl
  | 0, g + 1, T, hT, hd, _ => by
    have c : ¬ 4 ≤ rk T := fun c => by
      have := hd 0
      unfold dpS at this
      rw [if_pos c] at this
      omega
    rw [nrH_s, if_neg (by omega), if_neg (by omega)]
    rfl
  | f + 1, 0, _, _, _, hfg => absurd hfg (by omega)
  | f + 1, g + 1, T, hT, hd, hfg => by
    rw [nrH_s, nrH_s]
    by_cases c : 4 ≤ rk T
    · have ih : ∀ t ∈ kd T, nrH h g t = nrH h f t := fun t ht => nrH_fuel f g t (kd_tr hT.1 hT.2 t ht) (dp_kd (by intro r; have := hd r; omega) c ht) (by omega)
      have e1 : (kd T).foldl (fun E t => inH h (nrH h g t) (rq t) E) [] = (kd T).foldl (fun E t => inH h (nrH h f t) (rq t) E) [] := foldl_mem (kd T) [] (fun t ht E => by rw [ih t ht])
      have e2 : (kd T).map (nrH h g) = (kd T).map (nrH h f) := List.map_congr_left ih
      rw [e1, e2]
    · rw [if_neg (by omega), if_neg (by omega), if_neg (by omega), if_neg (by omega)]
section RCE
variable {S : GS} {d F K : Nat} {V : List ND} {w : Int}
/-- like KEYS become one, in another document -/
theorem q_chooseNr {k f : Int} (hd : 9 ≤ d) (hf : f = (F : Int)) (hF : F < 48) (hk : k = (K : Int)) (hK : K < 48) (hne : F ≠ K) (hw : w = 2 ∨ w = 3) (hV : TR V ∧ PZL V) (hL : LK S F V) (hdp : ∀ r, dpS r V ≤ 12) : Ev (fun n => f_X12_choose n d 0 S [f, 0, k, w]) (fun _ S1 => MD S1 K (some (mny (kyT (nrH (decide (w = 3)) 13 V) []))) ∧ FC (chP K 0) S S1) := by
  have lv := hV.1.2.1
  have s0 := sg_selT hV.1
  have l1 := hL.2.1
  have e0 := ch_nr hw hV hL.2.2.2 l1 12 0 (by omega) (by rw [s0]; exact hdp)
  rw [s0] at e0
  have tn := nrH_tr (h := decide (w = 3)) 12 V hV
  have ln := nrH_len (h := decide (w = 3)) 12 V hV
  have ek := chK_ky e0 tn.1.1
  have := q_choose (S := S) (d := d) (k := k) (f := f) (i := 0) (I := 0) (w := w) hd hf hF hk hK rfl hne hV (by omega) (fun g hg h4 _ => chO_23 (by omega) hF hV l1 hw hg h4) hL (by omega) (by rw [s0]; exact hdp) (by rw [ek, mny_len, ky_len tn.1.1.2.1]; omega)
  rw [ek] at this
  rw [nrH_fuel 12 13 V hV hdp (by decide)]
  exact this
end RCE
