/-! THE REFERENCE's grow, vary -/
theorem doc_p {T : List ND} (h : SDC T) (hp : pOK T) (hq : rq T = []) : DOC T := ⟨h, fun g => dp_all 13 T 12 hp.2 (by decide) g, hp.1, hq⟩
/-- the VALUE that vary brings -/
def vrT (seed : Int) : List ND := nr3 2 (grF 2 2 2 (dr seed)).1
/-- what vary makes -/
def vrW (V : List ND) (seed : Int) : List ND := updF (fun c => kyT (vrT seed) (rq c)) V.length V (dv seed V.length).toNat
theorem vrT_ok {seed : Int} : SDC (vrT seed) ∧ (∀ g, dpS g (vrT seed) ≤ 3) ∧ (vrT seed).length ≤ 40 ∧ rq (vrT seed) = [] := gr_sdc (sz := 2) (lv := 2) (f := 2) (by decide) (by decide) (by decide) (by decide) dr_r
theorem vr_at {V : List ND} {seed : Int} (h : 1 ≤ V.length) : (dv seed V.length).toNat < V.length ∧ dv seed V.length = ((dv seed V.length).toNat : Int) := by
  have := dv_r (st := seed) (n := V.length) (by omega)
  omega
theorem vrW_ok {V : List ND} {seed : Int} (h : DOC V) : (TR (vrW V seed) ∧ PZL (vrW V seed)) ∧ (pOK (vrW V seed) → DOC (vrW V seed)) ∧ ((vrW V seed).length ≤ 100 → SDC (vrW V seed) ∧ rq (vrW V seed) = []) := by
  have l1 := h.1.1.1.2.1
  obtain ⟨il, _⟩ := vr_at (seed := seed) l1
  have vo := vrT_ok (seed := seed)
  have sv := sdc_sg V.length V (Nat.le_refl _) h.1 _ il
  have kr := (sv.2.1 _ (nd_mem sv.1.1.2.1)).1
  have sk : SDC (kyT (vrT seed) (rq (sg V (dv seed V.length).toNat))) := sdc_ky vo.1 kr.2.2.2.2.2.2.2.2.2 kr.2.2.2.2.2.2.2.2.1
  have tr := (upd_tr (h := fun c => kyT (vrT seed) (rq c)) V.length V _ (Nat.le_refl _) h.1.1 il sk.1).1
  have sd : (vrW V seed).length ≤ 100 → SDC (vrW V seed) ∧ rq (vrW V seed) = [] := fun hl => by
    have := upd_sdc (h := fun c => kyT (vrT seed) (rq c)) V.length V _ (Nat.le_refl _) h.1 il sk rfl hl
    exact ⟨this.1, this.2.trans h.2.2.2⟩
  exact ⟨tr, fun hp => doc_p (sd hp.1).1 hp (sd hp.1).2, sd⟩
theorem grw_D {seed sz : Int} (hs : 0 ≤ seed ∧ seed < 65536) (hz : 1 ≤ sz ∧ sz ≤ 3) : DOC (grw seed sz) := by
  have g := gr_sdc (lv := 0) (f := 4) hz (by decide) (by decide) (by decide) hs
  exact ⟨g.1, fun r => by have := g.2.1 r; unfold grw; omega, by have := g.2.2.1; unfold grw; omega, g.2.2.2⟩
