/-! SOUND pieces stay sound when they are changed -/
theorem wdA_rng {l : List Int} (h : rng l) (k : Nat) : rng (wdA l k) := by
  unfold wdA
  exact une_r (b := 256) (by decide) (fun x hx => h x (List.mem_of_mem_take (List.mem_of_mem_drop hx)))
theorem rk4 {V : List ND} (hV : TR V ∧ PZL V) {o : Nat} (ho : o < V.length) : rk (sg V o) = nk V o := rk_sg ho (pz_l hV.2 o)
theorem root_mem {T : List ND} (h : TR T) : T.getD 0 nd0 ∈ T := nd_mem h.2.1
theorem ins_sdc {c t : List ND} {p : Nat} (hc : SDC c) (h4 : 4 ≤ rk c) (ht : SDC t) (h5 : rk c = 5 → rq t ∉ (kd c).map rq) (hr : rk c = 4 → rq t = []) (hl : c.length + t.length ≤ 100) : SDC (insT p t c) := by
  have k1 := hc.2.2 1
  have ln := insT_len (p := p) (t := t) hc.1 h4
  unfold insT at ln ⊢
  rw [gp_len] at ln
  refine sdc_gp (x := c.getD 0 nd0) h4 (hc.2.1 _ (root_mem hc.1.1)) (fun u hu => ?_) (fun e => ?_) (fun e u hu => ?_) (by omega)
  · rcases List.mem_append.mp hu with w | w
    · exact sdc_kd hc (List.mem_of_mem_take w)
    · rcases List.mem_cons.mp w with w | w
      · rw [w]; exact ht
      · exact sdc_kd hc (List.mem_of_mem_drop w)
  · have n1 := k1.1 e
    have n2 := h5 e
    rw [List.map_append, List.map_cons]
    refine List.Perm.nodup (List.perm_middle.symm) (List.nodup_cons.mpr ?_)
    rw [← List.map_append, List.take_append_drop]
    exact ⟨n2, n1⟩
  · rcases List.mem_append.mp hu with w | w
    · exact k1.2.1 e u (List.mem_of_mem_take w)
    · rcases List.mem_cons.mp w with w | w
      · rw [w]; exact hr e
      · exact k1.2.1 e u (List.mem_of_mem_drop w)
theorem del_sdc {c : List ND} {p : Nat} (hc : SDC c) (h4 : 4 ≤ rk c) (hl : c.length ≤ 100) : SDC (delT p c) := by
  have k1 := hc.2.2 1
  have e := congrArg List.length (kd_flat hc.1.2 hc.1.1.2.1)
  rw [List.length_cons] at e
  have sb : ((kd c).take p ++ (kd c).drop (p + 1)).Sublist (kd c) := by
    conv => rhs; rw [← List.take_append_drop p (kd c)]
    exact List.Sublist.append_left (List.drop_sublist_drop_left (kd c) (Nat.le_succ p)) _
  have mem : ∀ u ∈ (kd c).take p ++ (kd c).drop (p + 1), u ∈ kd c := fun u hu => sb.subset hu
  unfold delT
  refine sdc_gp (x := c.getD 0 nd0) h4 (hc.2.1 _ (root_mem hc.1.1)) (fun u hu => sdc_kd hc (mem u hu)) (fun e => ?_) (fun e u hu => k1.2.1 e u (mem u hu)) ?_
  · exact List.Nodup.sublist (sb.map rq) (k1.1 e)
  · have : ((kd c).take p ++ (kd c).drop (p + 1)).flatten.length ≤ (kd c).flatten.length := by
      rw [take_flat (E := kd c) (m := p), List.flatten_append, List.length_append, List.length_append]
      have : ((kd c).drop (p + 1)).flatten.length ≤ ((kd c).drop p).flatten.length := by
        rw [← List.drop_drop]
        cases (kd c).drop p with
        | nil => exact Nat.le_refl _
        | cons a L => rw [List.drop_succ_cons, List.drop_zero, List.flatten_cons, List.length_append]; omega
      omega
    omega
section EDS
variable {l : List Int} {V t : List ND}
theorem put_sdc {z : Bool × Nat × Nat × Nat} (h : SDC V) (hq : rq V = []) (hl : rng l) (ht : SDC t) (hz : aimS l V = some z) (hn : (putT l V z t).length ≤ 100) : SDC (putT l V z t) ∧ rq (putT l V z t) = [] := by
  have ok := aimS_ok h.1 hz
  unfold putT at hn ⊢
  cases hb : z.1 with
  | true =>
    rw [hb, if_pos rfl] at hn
    rw [if_pos rfl]
    have ho := ok.2.1 hb
    have hs := sdc_sg V.length V (Nat.le_refl _) h _ ho
    have hk : rng (rq (sg V z.2.2.1)) ∧ (rq (sg V z.2.2.1)).length ≤ 12 := by
      have := (hs.2.1 _ (root_mem hs.1.1)).1
      exact ⟨this.2.2.2.2.2.2.2.2.2, this.2.2.2.2.2.2.2.2.1⟩
    have := upd_sdc (h := fun c => kyT t (rq c)) V.length V z.2.2.1 (Nat.le_refl _) h ho (sdc_ky ht hk.1 hk.2) rfl hn
    exact ⟨this.1, by rw [this.2, hq]⟩
  | false =>
    rw [hb, if_neg (by decide)] at hn
    rw [if_neg (by decide)]
    obtain ⟨a1, a2, a3, a4, a5, a6, a7⟩ := ok.2.2 hb
    have ho := ok.1
    have hs := sdc_sg V.length V (Nat.le_refl _) h _ ho
    have r4 := rk4 h.1 ho
    have kdm := kd_sg h.1.2 h.1.1.1 ho
    have hk : SDC (kyT t (kyA l V z.2.1)) := by
      refine sdc_ky ht ?_ ?_
      · unfold kyA
        split
        · exact wdA_rng hl _
        · intro x hx; cases hx
      · unfold kyA
        split
        · rename_i c; exact (a7 c).1
        · exact Nat.zero_le _
    have lk : (kyT t (kyA l V z.2.1)).length = t.length := ky_len ht.1.1.2.1
    have it := insT_tr (p := z.2.2.2) (t := kyT t (kyA l V z.2.1)) hs.1 (by rw [r4]; exact a1) hk.1
    have il := insT_len (p := z.2.2.2) (t := kyT t (kyA l V z.2.1)) hs.1 (by rw [r4]; exact a1)
    have ul := (upd_tr (h := insT z.2.2.2 (kyT t (kyA l V z.2.1))) V.length V z.2.1 (Nat.le_refl _) h.1 ho it).2
    have sl := sg_len h.1.1.1 ho
    have wv := h.1.1.1.1 _ ho
    have := upd_sdc (h := insT z.2.2.2 (kyT t (kyA l V z.2.1))) V.length V z.2.1 (Nat.le_refl _) h ho (ins_sdc hs (by rw [r4]; exact a1) hk (fun e => ?_) (fun e => ?_) (by omega)) rfl hn
    · exact ⟨this.1, by rw [this.2, hq]⟩
    · rw [r4] at e
      show kyA l V z.2.1 ∉ _
      unfold kyA
      rw [if_pos e, kdm, List.map_map]
      intro hm
      obtain ⟨k, k1, k2⟩ := List.mem_map.mp hm
      have kl := kid_in3 h.1.1.1 (pz_l h.1.2) ho k1
      have : rq (sg V k) = nq V k := rq_sg kl.2.1 (pz_l h.1.2 k)
      exact (a7 e).2 k k1 (by rw [← this]; exact k2)
    · rw [r4] at e
      show kyA l V z.2.1 = []
      unfold kyA
      rw [if_neg (by omega)]
theorem cut_sdc {i : Nat} (h : SDC V) (hq : rq V = []) (hn : V.length ≤ 100) (h1 : 1 ≤ i) (hi : i < V.length) : SDC (cutT V i) ∧ rq (cutT V i) = [] ∧ (cutT V i).length ≤ 100 := by
  obtain ⟨o, p, e1, e2, e3, e4, e5, e6, e7, e8⟩ := cut_parts h.1 h1 hi
  have ho : o < V.length := by omega
  have hs := sdc_sg V.length V (Nat.le_refl _) h _ ho
  have r4 := rk4 h.1 ho
  have sl := sg_len h.1.1.1 ho
  have wv := h.1.1.1.1 _ ho
  have sp := cut_spl h.1 h1 hi e1
  have zi := pz_l h.1.2 i
  have eu : cutT V i = updF (delT p) V.length V o := by
    unfold cutT
    rw [e1, e2, Int.toNat_natCast, Int.toNat_natCast]
  have ll : (updF (delT p) V.length V o).length ≤ 100 := by rw [← eu]; omega
  have := upd_sdc (h := delT p) V.length V o (Nat.le_refl _) h ho (del_sdc hs (by rw [r4]; exact e5) (by omega)) rfl ll
  rw [eu]
  exact ⟨this.1, by rw [this.2, hq], ll⟩
theorem ld_ok (h : TR V ∧ PZL V) (u : Nat) : nOK V (ldT l V u) := ldF_r h.1.1 (pz_l h.2) _ _ _ (Or.inr (by have := h.1.2.1; omega))
end EDS
