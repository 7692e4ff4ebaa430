/-! THE WHOLE -/
theorem cl_gz {S S1 : GS} {T0 : List ND} {Ds : List (List ND)} {pg pp : List Int} {r : Int} {L : List Nat} {Q : List (List Int)} {C : List (Int × Int)} (h : ClS T0 Ds pg pp r L Q C S) (hf : ∀ c, c < 495 → S1.1 c = S.1 c ∧ S1.2.1 c = S.2.1 c ∧ S1.2.2 c = S.2.2 c) (h2 : ∀ c k, S1.2.2 c k < 495) : ClS T0 Ds pg pp r L Q C S1 := by
  have hF : Fr (fun c => 495 ≤ c) S S1 := fun c hc => hf c (by omega)
  obtain ⟨⟨n1, n2, n3⟩, ⟨p1, p2⟩, q1, ⟨r1, r2⟩, f1, u1, c1, t1, g⟩ := h
  have n468 := hF 468 (by omega)
  exact ⟨⟨by rw [n468.1]; exact n1, n2, fun i hi => ⟨to_fr (n3 i hi).1 hF (fun k a b => by omega), (n3 i hi).2⟩⟩, ⟨sv_fr p1 hF (by omega) (by omega), p2⟩, sv_fr q1 hF (by omega) (by omega), ⟨by rw [n468.1]; exact r1, r2⟩, fsl_fr f1 hF (by omega) (by omega) (by omega), qu_fr u1 hF (by omega) (by omega) (by omega) (by omega), cp_fr c1 hF (by rw [(hF 487 (by omega)).1]) (by omega) (by omega), to_fr t1 hF (fun k a b => by omega), ⟨fun c k hc => by rw [(hf c hc).1]; exact g.1 c k hc, fun c k hc => by rw [(hf c (by have := hc.1; omega)).1]; exact g.2.1 c k hc, h2⟩⟩
theorem gz_ref {S : GS} (h : ∀ c k, S.2.2 c k < 495) : ∀ c k, (gz S).2.2 c k < 495 := by
  intro c k
  show (if c < 495 then S.2.2 c else fun _ => 0) k < 495
  by_cases z : c < 495
  · rw [if_pos z]
    exact h c k
  · rw [if_neg z]
    decide
theorem gs_ne {S : GS} {c : Nat} (h : c ≠ 600) : (gs0 S).1 c = S.1 c := by
  show (if c = 600 then fun _ => 0 else S.1 c) = _
  rw [if_neg h]
theorem pure_all : PureAll := by
  intro XL XS hXL hXS
  obtain ⟨x1, S1, h1, n1, e1⟩ := c_init
  have g1 : ∀ c k, S1.2.2 c k < 495 := h1.2.2.2.2.2.2.2.2.2.2
  obtain ⟨x2, S2, h2, n2, e2⟩ := q_init (B := gz S1) (fun c k hc => gz_hi hc)
  have c2 : CLS ([], [], [], 0, [], [], []) (gz S1) := cl_gz h1 (fun c hc => gz_lo hc) (gz_ref g1)
  have r2 : RFS ([], [], [], 0, [], [], []) (gz S1) S2 := h2
  have c3 : CLS ([], [], [], 0, [], [], []) S2 := cls_ref c2 r2
  have g2 : ∀ c k, S2.2.2 c k < 495 := c3.2.2.2.2.2.2.2.2.2.2
  have c4 : CLS ([], [], [], 0, [], [], []) (gs0 S2) := cl_hi c3 (fun c hc => ⟨gs_ne (by omega), rfl⟩) rfl
  have r4 : RFS ([], [], [], 0, [], [], []) (gs0 S2) (gs0 S2) := rf_move r2 (fun c _ hn => ⟨gs_ne hn, rfl⟩)
  obtain ⟨x3, S3, h3, n3, e3⟩ := lw_all hXL hXS XL 0 _ _ (by decide) (by omega) (by decide) c4 r4
  have h3' : x3 = 1 := h3
  have e3' := e3 n3 (Nat.le_refl _)
  rw [h3'] at e3'
  exact ⟨n1, n2, n3, x1, x2, S1, S2, S3, e1 n1 (Nat.le_refl _), g1, e2 n2 (Nat.le_refl _), g2, e3'⟩
