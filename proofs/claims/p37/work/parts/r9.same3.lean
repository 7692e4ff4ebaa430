/-! in whatever way it is written, it is EQUAL -/
theorem zip_all {α : Type} {p : α × α → Bool} {g : α → α} : ∀ (K : List α), (∀ t ∈ K, p (g t, t) = true) → ((K.map g).zip K).all p = true
  | [], _ => rfl
  | t :: K, h => by
    rw [List.map_cons, List.zip_cons_cons, List.all_cons, h t List.mem_cons_self, zip_all K (fun u hu => h u (List.mem_cons_of_mem _ hu))]
    rfl
theorem sm_w {w : Int} : ∀ (f : Nat) (T : List ND), SDC T → T.length ≤ 100 → (∀ r, dpS r T ≤ (f : Int)) → smF (f + 1) (woF w f T) T = true := by
  have leaf : ∀ (f : Nat) (T : List ND), rk T < 4 → smF (f + 1) T T = true := fun f T c => by
    show (decide (rk T = rk T) && (decide (rz T = rz T) && (if 4 ≤ rk T then _ else decide (rp T = rp T) && decide (rt T = rt T)))) = true
    rw [if_neg (by omega)]
    simp
  intro f
  induction f with
  | zero =>
    intro T hT hl hd
    have c : rk T < 4 := by
      have h0 := hd 0
      unfold dpS at h0
      by_cases c : 4 ≤ rk T
      · rw [if_pos c] at h0; omega
      · omega
    exact leaf 0 T c
  | succ f ih =>
    intro T hT hl hd
    have ew : woF w (f + 1) T = if 4 ≤ rk T then gpN (T.getD 0 nd0) ((koS w T).map (woF w f)) ((koS w T).map (woF w f)).length else T := rfl
    by_cases c : 4 ≤ rk T
    · have wo := wo_sdc (w := w) (f + 1) T hT hl
      have rw1 := wo_rq (w := w) (f + 1) T
      have pm := koS_perm (w := w) hT hl
      have kt : ∀ t ∈ koS w T, t ∈ kd T := koS_mem
      have sm : ∀ t ∈ kd T, smF (f + 1) (woF w f t) t = true := fun t ht => by
        have := mem_len ht
        have := len_kd hT.1
        exact ih t (sdc_kd hT ht) (by omega) (dp_kd (fun g => by have := hd g; omega) c ht)
      have sw : ∀ t ∈ koS w T, TR (woF w f t) ∧ PZL (woF w f t) := fun t ht => by
        have hk := kt t ht
        have := mem_len hk
        have := len_kd hT.1
        exact (wo_sdc (w := w) f t (sdc_kd hT hk) (by omega)).1.1
      have ek : kd (woF w (f + 1) T) = (koS w T).map (woF w f) := by
        rw [ew, if_pos c]
        exact kd_gp (fun t ht => by
          obtain ⟨u, hu, rfl⟩ := List.mem_map.mp ht
          exact sw u hu)
      have ez : rz (woF w (f + 1) T) = rz T := by
        have a1 : rz (woF w (f + 1) T) = (woF w (f + 1) T).length := wo.1.1.1.2.2
        have a2 : rz T = T.length := hT.1.1.2.2
        rw [a1, a2, wo.2]
      have el : (kd (woF w (f + 1) T)).length = (kd T).length := by rw [ek, List.length_map, pm.length_eq]
      have es : smF (f + 1 + 1) (woF w (f + 1) T) T = (decide (rk (woF w (f + 1) T) = rk T) && (decide (rz (woF w (f + 1) T) = rz T) && (if 4 ≤ rk (woF w (f + 1) T) then decide ((kd (woF w (f + 1) T)).length = (kd T).length) && (if rk (woF w (f + 1) T) = 4 then ((kd (woF w (f + 1) T)).zip (kd T)).all (fun p => smF (f + 1) p.1 p.2) else (kd (woF w (f + 1) T)).all (fun t => match fdS (rq t) (kd T) with | some u => smF (f + 1) t u | none => false)) else decide (rp (woF w (f + 1) T) = rp T) && decide (rt (woF w (f + 1) T) = rt T)))) := rfl
      rw [es, rw1.2, ez, el, ek, if_pos c, decide_eq_true rfl, decide_eq_true rfl, decide_eq_true rfl, Bool.true_and, Bool.true_and, Bool.true_and]
      by_cases c4 : rk T = 4
      · rw [if_pos c4]
        have e4 : koS w T = kd T := by
          unfold koS
          rw [if_neg (by omega)]
        rw [e4]
        exact zip_all (kd T) (fun t ht => sm t ht)
      · rw [if_neg c4]
        have r5 := (root_nr hT).1.2.1
        have r5' : rk T ≤ 5 := r5
        have c5 : rk T = 5 := by omega
        have ku := (hT.2.2 1).1 c5
        rw [List.all_eq_true]
        intro u hu
        obtain ⟨t, ht, rfl⟩ := List.mem_map.mp hu
        rw [(wo_rq f t).1, fdS_some (kd T) t (kt t ht) rfl (nodup_inj ku)]
        exact sm t (kt t ht)
    · rw [ew, if_neg c]
      exact leaf (f + 1) T (by omega)
