/-! THE LAW -/
theorem lsg_id {x : Int} : lsg x x = 0 := by
  unfold lsg
  rw [if_neg (by omega), if_pos rfl]
section LAW
variable {XL : Nat} {XS : Nat → Int} {l l2 : LT} {S1 : GS} {k x : Int} {D : Nat}
abbrev one1 : Int → GS → Prop := fun y _ => y = 1
theorem lw_t1 {t : Int → Prop} {fr : Nat → Option (Int × GS)} {rec : Nat → GS → Option (Int × GS)} (ht : ∀ z, t z → inr z) (hk : 0 ≤ k ∧ k ≤ 3) (hx : k = 0 → t x) (hC : CLS l2 S1) (h6 : k = 0 → S1.1 600 0 = x) (hr : Ev fr (fun b S2 => S2.1 500 0 = k ∧ (k = 0 → b = x) ∧ RFS l2 S1 S2 ∧ S2.1 600 0 = S1.1 600 0)) (hrec : ∀ S2, CLS l2 S2 → RFS l2 S2 S2 → Ev (fun n => rec n S2) one1) : Ev (fun n => gc (fr n) fun b S2 => gc (f_X12_thrown n D 0 S2 []) fun t S3 => gg (inr t) <| gg (inr k) <| if t = k then (if k ≠ 0 then (rec n S3) else (gv (S3.1 600 0) fun v => gg (inr b) <| gg (inl v) <| gg (inl b) <| gv (lsg v b) fun w => gg (inr w) <| if w = 0 then (rec n S3) else (some (0, S3)))) else (some (0, S3))) one1 := by
  refine ev_gc hr (fun b S2 q => ?_)
  obtain ⟨q1, q2, q3, q4⟩ := q
  refine ev_gcr q_thrown ?_
  rw [q1]
  refine ev_gg (by first | omega | (constructor <;> omega)) ?_
  refine ev_gg (by first | omega | (constructor <;> omega)) ?_
  refine ev_ite (fun _ => ?_) (fun z => absurd rfl z)
  have hn := hrec S2 (cls_ref hC q3) (rf_base q3)
  refine ev_ite (fun _ => hn) (fun z => ?_)
  have k0 : k = 0 := Classical.not_not.mp z
  have hb := q2 k0
  have vi := ht x (hx k0)
  refine ev_gv ?_
  rw [q4, h6 k0, hb]
  refine ev_gg vi ?_
  have vl : inl x := by
    have := vi.1
    have := vi.2
    constructor <;> omega
  refine ev_gg vl ?_
  refine ev_gg vl ?_
  refine ev_gv ?_
  rw [lsg_id]
  refine ev_gg (by decide) ?_
  exact ev_ite (fun _ => hn) (fun z => absurd rfl z)
theorem lw_t2 {fr : Nat → Option (Int × GS)} {rec : Nat → GS → Option (Int × GS)} (hk : 0 ≤ k ∧ k ≤ 3) (hx : k = 0 → inl x) (hC : CLS l2 S1) (h6 : k = 0 → S1.1 600 0 = x) (hr : Ev fr (fun b S2 => S2.1 500 0 = k ∧ (k = 0 → b = x) ∧ RFS l2 S1 S2 ∧ S2.1 600 0 = S1.1 600 0)) (hrec : ∀ S2, CLS l2 S2 → RFS l2 S2 S2 → Ev (fun n => rec n S2) one1) : Ev (fun n => gc (fr n) fun b S2 => gc (f_X12_thrown n D 0 S2 []) fun t S3 => gg (inr t) <| gg (inr k) <| if t = k then (if k ≠ 0 then (rec n S3) else (gv (S3.1 600 0) fun v => gg (inl v) <| gg (inl b) <| gv (lsg v b) fun w => gg (inr w) <| if w = 0 then (rec n S3) else (some (0, S3)))) else (some (0, S3))) one1 := by
  refine ev_gc hr (fun b S2 q => ?_)
  obtain ⟨q1, q2, q3, q4⟩ := q
  refine ev_gcr q_thrown ?_
  rw [q1]
  refine ev_gg (by first | omega | (constructor <;> omega)) ?_
  refine ev_gg (by first | omega | (constructor <;> omega)) ?_
  refine ev_ite (fun _ => ?_) (fun z => absurd rfl z)
  have hn := hrec S2 (cls_ref hC q3) (rf_base q3)
  refine ev_ite (fun _ => hn) (fun z => ?_)
  have k0 : k = 0 := Classical.not_not.mp z
  have hb := q2 k0
  have vl := hx k0
  refine ev_gv ?_
  rw [q4, h6 k0, hb]
  refine ev_gg vl ?_
  refine ev_gg vl ?_
  refine ev_gv ?_
  rw [lsg_id]
  refine ev_gg (by decide) ?_
  exact ev_ite (fun _ => hn) (fun z => absurd rfl z)
theorem lw_t3 {fr : Nat → Option (Int × GS)} {rec : Nat → GS → Option (Int × GS)} (hk : 0 ≤ k ∧ k ≤ 3) (hx : k = 0 → (fun x : Int => x = 0 ∨ x = 1) x) (hC : CLS l2 S1) (h6 : k = 0 → S1.1 600 0 = x) (hr : Ev fr (fun b S2 => S2.1 500 0 = k ∧ (k = 0 → b = x) ∧ RFS l2 S1 S2 ∧ S2.1 600 0 = S1.1 600 0)) (hrec : ∀ S2, CLS l2 S2 → RFS l2 S2 S2 → Ev (fun n => rec n S2) one1) : Ev (fun n => gc (fr n) fun b S2 => gc (f_X12_thrown n D 0 S2 []) fun t S3 => gg (inr t) <| gg (inr k) <| if t = k then (if k ≠ 0 then (rec n S3) else (gv (S3.1 600 0) fun v => gg (inr b) <| if b = 0 then (gg (inl v) <| gv (lsg v 0) fun w => gg (inr w) <| if w = 0 then (rec n S3) else (some (0, S3))) else (gg (inl v) <| gv (lsg v 1) fun w => gg (inr w) <| if w = 0 then (rec n S3) else (some (0, S3))))) else (some (0, S3))) one1 := by
  refine ev_gc hr (fun b S2 q => ?_)
  obtain ⟨q1, q2, q3, q4⟩ := q
  refine ev_gcr q_thrown ?_
  rw [q1]
  refine ev_gg (by first | omega | (constructor <;> omega)) ?_
  refine ev_gg (by first | omega | (constructor <;> omega)) ?_
  refine ev_ite (fun _ => ?_) (fun z => absurd rfl z)
  have hn := hrec S2 (cls_ref hC q3) (rf_base q3)
  refine ev_ite (fun _ => hn) (fun z => ?_)
  have k0 : k = 0 := Classical.not_not.mp z
  have hb := q2 k0
  have h01 : x = 0 ∨ x = 1 := hx k0
  refine ev_gv ?_
  rw [q4, h6 k0, hb]
  rcases h01 with h01 | h01
  · rw [h01]
    refine ev_gg (by decide) ?_
    refine ev_ite (fun _ => ?_) (fun z => absurd rfl z)
    refine ev_gg (by decide) ?_
    refine ev_gv ?_
    rw [lsg_id]
    refine ev_gg (by decide) ?_
    exact ev_ite (fun _ => hn) (fun z => absurd rfl z)
  · rw [h01]
    refine ev_gg (by decide) ?_
    refine ev_ite (fun z => absurd z (by decide)) (fun _ => ?_)
    refine ev_gg (by decide) ?_
    refine ev_gv ?_
    rw [lsg_id]
    refine ev_gg (by decide) ?_
    exact ev_ite (fun _ => hn) (fun z => absurd rfl z)
theorem lw_c0 {XL : Nat} {XS : Nat → Int} (hXS : ∀ k, inr (XS k)) {a4 : Int} {l : LT} {S : GS} (h0 : 0 ≤ a4) (h4 : a4 + 4 ≤ (XL : Int)) (hXL : XL ≤ 2048) (hc : CLS l S) (hr : RFS l S S) {rec : Nat → Nat → Nat → GS → List Int → Option (Int × GS)} (hrec : ∀ l2 S2, CLS l2 S2 → RFS l2 S2 S2 → Ev (fun n => rec n 2036 2279 S2 [a4]) one1) : Ev (fun n =>
  gv (a4 + 1) fun x13 =>
  gg (0 ≤ x13 ∧ x13 < ((XL : Nat) : Int) ∧ x13 < 2147483648) <|
  gv (XS (x13 : Int).toNat) fun x16 =>
  gv (a4 + 2) fun x18 =>
  gg (0 ≤ x18 ∧ x18 < ((XL : Nat) : Int) ∧ x18 < 2147483648) <|
  gv (XS (x18 : Int).toNat) fun x21 =>
  gg (inr x21) <|
  gv (x21 * 4294967296) fun x24 =>
  gv (a4 + 3) fun x26 =>
  gg (0 ≤ x26 ∧ x26 < ((XL : Nat) : Int) ∧ x26 < 2147483648) <|
  gv (XS (x26 : Int).toNat) fun x29 =>
  gg (inr x29) <|
  gv (x29 % 4294967296) fun x32 =>
  gg (x24 % 4294967296 = 0 ∧ 0 ≤ x32 ∧ x32 < 4294967296) <|
  gv (x24 + x32) fun x35 =>
  gg (1 ≤ 2036) <|
  gc (f_L_write n (2036 - 1) 0 S [x16, x35]) fun x38 S_39 =>
  gv (a4 + 1) fun x41 =>
  gg (0 ≤ x41 ∧ x41 < ((XL : Nat) : Int) ∧ x41 < 2147483648) <|
  gv (XS (x41 : Int).toNat) fun x44 =>
  gv (a4 + 2) fun x46 =>
  gg (0 ≤ x46 ∧ x46 < ((XL : Nat) : Int) ∧ x46 < 2147483648) <|
  gv (XS (x46 : Int).toNat) fun x49 =>
  gg (inr x49) <|
  gv (x49 * 4294967296) fun x52 =>
  gv (a4 + 3) fun x54 =>
  gg (0 ≤ x54 ∧ x54 < ((XL : Nat) : Int) ∧ x54 < 2147483648) <|
  gv (XS (x54 : Int).toNat) fun x57 =>
  gg (inr x57) <|
  gv (x57 % 4294967296) fun x60 =>
  gg (x52 % 4294967296 = 0 ∧ 0 ≤ x60 ∧ x60 < 4294967296) <|
  gv (x52 + x60) fun x63 =>
  gc (f_X12_write n (2036 - 1) 0 S_39 [x44, x63]) fun x65 S_66 =>
  gc (f_X12_thrown n (2036 - 1) 0 S_66 []) fun x68 S_69 =>
  gg (inr x68) <|
  gg (inr x38) <|
  if x68 = x38 then (
  if x38 ≠ 0 then (
  rec n 2036 2279 S_69 [a4]
  ) else (
  gv (S_69.1 600 0) fun x75 =>
  gg (inr x65) <|
  gg (inl x75) <|
  gg (inl x65) <|
  gv (lsg x75 x65) fun x80 =>
  gg (inr x80) <|
  if x80 = 0 then (
  rec n 2036 2279 S_69 [a4]
  ) else (
  some (0, S_69)
  )
  )
  ) else (
  some (0, S_69)
  )) one1 := by
  obtain ⟨Ds, pg, pp, r, L, Q, C⟩ := l
  have hC : ClS stT Ds pg pp r L Q C S := hc
  have hR : RfS S stT Ds pg pp r L Q C S := hr
  refine ev_gv ?_
  refine ev_gg ⟨by omega, by omega, by omega⟩ ?_
  refine ev_gv ?_
  refine ev_gv ?_
  refine ev_gg ⟨by omega, by omega, by omega⟩ ?_
  refine ev_gv ?_
  refine ev_gg (hXS _) ?_
  refine ev_gv ?_
  refine ev_gv ?_
  refine ev_gg ⟨by omega, by omega, by omega⟩ ?_
  refine ev_gv ?_
  refine ev_gg (hXS _) ?_
  refine ev_gv ?_
  refine ev_gg ⟨by omega, by omega, by omega⟩ ?_
  refine ev_gv ?_
  refine ev_gg (by decide) ?_
  obtain ⟨k, x, l2, hk, hx, hcl, hrf⟩ := pr_write (D := 2036 - 1) (by decide) hC hR (nn := XS (a4 + 1).toNat) (a := XS (a4 + 2).toNat * 4294967296 + XS (a4 + 3).toNat % 4294967296) (hXS _) (by have := hXS (a4 + 2).toNat; constructor <;> omega)
  refine ev_gc hcl (fun y S1 q => ?_)
  obtain ⟨e0, h6, hC2, hx2⟩ := q
  subst e0
  refine ev_gv ?_
  refine ev_gg ⟨by omega, by omega, by omega⟩ ?_
  refine ev_gv ?_
  refine ev_gv ?_
  refine ev_gg ⟨by omega, by omega, by omega⟩ ?_
  refine ev_gv ?_
  refine ev_gg (hXS _) ?_
  refine ev_gv ?_
  refine ev_gv ?_
  refine ev_gg ⟨by omega, by omega, by omega⟩ ?_
  refine ev_gv ?_
  refine ev_gg (hXS _) ?_
  refine ev_gv ?_
  refine ev_gg ⟨by omega, by omega, by omega⟩ ?_
  refine ev_gv ?_
  exact lw_t1 (fun _ z => z) (rec := fun n S => rec n 2036 2279 S [a4]) hk hx hC2 h6 (hrf S1 (rf_move hR hx2)) (fun S2 a b => hrec l2 S2 a b)
theorem lw_c1 {XL : Nat} {XS : Nat → Int} (hXS : ∀ k, inr (XS k)) {a4 : Int} {l : LT} {S : GS} (h0 : 0 ≤ a4) (h4 : a4 + 4 ≤ (XL : Int)) (hXL : XL ≤ 2048) (hc : CLS l S) (hr : RFS l S S) {rec : Nat → Nat → Nat → GS → List Int → Option (Int × GS)} (hrec : ∀ l2 S2, CLS l2 S2 → RFS l2 S2 S2 → Ev (fun n => rec n 2036 2279 S2 [a4]) one1) : Ev (fun n =>
  gg (1 ≤ 2036) <|
  gc (f_X11_wipe n (2036 - 1) 0 S []) fun x86 S_87 =>
  gc (f_X12_wipe n (2036 - 1) 0 S_87 []) fun x89 S_90 =>
  gg (inr x86) <|
  gg (inr x89) <|
  if x86 = x89 then (
  rec n 2036 2279 S_90 [a4]
  ) else (
  some (0, S_90)
  )) one1 := by
  obtain ⟨Ds, pg, pp, r, L, Q, C⟩ := l
  have hC : ClS stT Ds pg pp r L Q C S := hc
  have hR : RfS S stT Ds pg pp r L Q C S := hr
  refine ev_gg (by decide) ?_
  refine ev_gc (ev_hi (fun n => (kh_X11_wipe n) _ _) (c_wipe hC (d := 2036 - 1) (by decide))) (fun y S1 q => ?_)
  obtain ⟨⟨hv, hC2⟩, hx2⟩ := q
  have hm : RfS S1 stT Ds pg pp r L Q C S1 := rf_move hr (hx_of hx2)
  refine ev_gc (r_wipe (d := 2036 - 1) hm) (fun b S2 q => ?_)
  obtain ⟨hb, _, hR2⟩ := q
  have ln : pg.length ≤ 400 := hC.2.1.2
  rw [hv, hb]
  refine ev_gg (by first | omega | (constructor <;> omega)) ?_
  refine ev_gg (by first | omega | (constructor <;> omega)) ?_
  exact ev_ite (fun _ => hrec (Ds, [], pp, r, L, Q, C) S2 (cls_ref (l := (Ds, [], pp, r, L, Q, C)) (l2 := (Ds, [], pp, r, L, Q, C)) hC2 hR2) (rf_base (l := (Ds, [], pp, r, L, Q, C)) hR2)) (fun z => absurd rfl z)
theorem lw_c2 {XL : Nat} {XS : Nat → Int} (hXS : ∀ k, inr (XS k)) {a4 : Int} {l : LT} {S : GS} (h0 : 0 ≤ a4) (h4 : a4 + 4 ≤ (XL : Int)) (hXL : XL ≤ 2048) (hc : CLS l S) (hr : RFS l S S) {rec : Nat → Nat → Nat → GS → List Int → Option (Int × GS)} (hrec : ∀ l2 S2, CLS l2 S2 → RFS l2 S2 S2 → Ev (fun n => rec n 2036 2279 S2 [a4]) one1) : Ev (fun n =>
  gv (a4 + 1) fun x96 =>
  gg (0 ≤ x96 ∧ x96 < ((XL : Nat) : Int) ∧ x96 < 2147483648) <|
  gv (XS (x96 : Int).toNat) fun x99 =>
  gv (a4 + 2) fun x101 =>
  gg (0 ≤ x101 ∧ x101 < ((XL : Nat) : Int) ∧ x101 < 2147483648) <|
  gv (XS (x101 : Int).toNat) fun x104 =>
  gg (1 ≤ 2036) <|
  gc (f_L_paper n (2036 - 1) 0 S [x99, x104]) fun x107 S_108 =>
  gv (a4 + 1) fun x110 =>
  gg (0 ≤ x110 ∧ x110 < ((XL : Nat) : Int) ∧ x110 < 2147483648) <|
  gv (XS (x110 : Int).toNat) fun x113 =>
  gv (a4 + 2) fun x115 =>
  gg (0 ≤ x115 ∧ x115 < ((XL : Nat) : Int) ∧ x115 < 2147483648) <|
  gv (XS (x115 : Int).toNat) fun x118 =>
  gc (f_X12_paper n (2036 - 1) 0 S_108 [x113, x118]) fun x120 S_121 =>
  gc (f_X12_thrown n (2036 - 1) 0 S_121 []) fun x123 S_124 =>
  gg (inr x123) <|
  gg (inr x107) <|
  if x123 = x107 then (
  if x107 ≠ 0 then (
  rec n 2036 2279 S_124 [a4]
  ) else (
  gv (S_124.1 600 0) fun x130 =>
  gg (inl x130) <|
  gg (inl x120) <|
  gv (lsg x130 x120) fun x134 =>
  gg (inr x134) <|
  if x134 = 0 then (
  rec n 2036 2279 S_124 [a4]
  ) else (
  some (0, S_124)
  )
  )
  ) else (
  some (0, S_124)
  )) one1 := by
  obtain ⟨Ds, pg, pp, r, L, Q, C⟩ := l
  have hC : ClS stT Ds pg pp r L Q C S := hc
  have hR : RfS S stT Ds pg pp r L Q C S := hr
  refine ev_gv ?_
  refine ev_gg ⟨by omega, by omega, by omega⟩ ?_
  refine ev_gv ?_
  refine ev_gv ?_
  refine ev_gg ⟨by omega, by omega, by omega⟩ ?_
  refine ev_gv ?_
  refine ev_gg (by decide) ?_
  obtain ⟨k, x, l2, hk, hx, hcl, hrf⟩ := pr_paper (D := 2036 - 1) (by decide) hC hR (hXS _) (hXS _)
  refine ev_gc hcl (fun y S1 q => ?_)
  obtain ⟨e0, h6, hC2, hx2⟩ := q
  subst e0
  refine ev_gv ?_
  refine ev_gg ⟨by omega, by omega, by omega⟩ ?_
  refine ev_gv ?_
  refine ev_gv ?_
  refine ev_gg ⟨by omega, by omega, by omega⟩ ?_
  refine ev_gv ?_
  exact lw_t2 (rec := fun n S => rec n 2036 2279 S [a4]) hk hx hC2 h6 (hrf S1 (rf_move hR hx2)) (fun S2 a b => hrec l2 S2 a b)
theorem lw_c3 {XL : Nat} {XS : Nat → Int} (hXS : ∀ k, inr (XS k)) {a4 : Int} {l : LT} {S : GS} (h0 : 0 ≤ a4) (h4 : a4 + 4 ≤ (XL : Int)) (hXL : XL ≤ 2048) (hc : CLS l S) (hr : RFS l S S) {rec : Nat → Nat → Nat → GS → List Int → Option (Int × GS)} (hrec : ∀ l2 S2, CLS l2 S2 → RFS l2 S2 S2 → Ev (fun n => rec n 2036 2279 S2 [a4]) one1) : Ev (fun n =>
  gv (a4 + 1) fun x139 =>
  gg (0 ≤ x139 ∧ x139 < ((XL : Nat) : Int) ∧ x139 < 2147483648) <|
  gv (XS (x139 : Int).toNat) fun x142 =>
  gg (1 ≤ 2036) <|
  gc (f_L_rule n (2036 - 1) 0 S [x142]) fun x145 S_146 =>
  gv (a4 + 1) fun x148 =>
  gg (0 ≤ x148 ∧ x148 < ((XL : Nat) : Int) ∧ x148 < 2147483648) <|
  gv (XS (x148 : Int).toNat) fun x151 =>
  gc (f_X12_rule n (2036 - 1) 0 S_146 [x151]) fun x153 S_154 =>
  gc (f_X12_thrown n (2036 - 1) 0 S_154 []) fun x156 S_157 =>
  gg (inr x156) <|
  gg (inr x145) <|
  if x156 = x145 then (
  if x145 ≠ 0 then (
  rec n 2036 2279 S_157 [a4]
  ) else (
  gv (S_157.1 600 0) fun x163 =>
  gg (inr x153) <|
  gg (inl x163) <|
  gg (inl x153) <|
  gv (lsg x163 x153) fun x168 =>
  gg (inr x168) <|
  if x168 = 0 then (
  rec n 2036 2279 S_157 [a4]
  ) else (
  some (0, S_157)
  )
  )
  ) else (
  some (0, S_157)
  )) one1 := by
  obtain ⟨Ds, pg, pp, r, L, Q, C⟩ := l
  have hC : ClS stT Ds pg pp r L Q C S := hc
  have hR : RfS S stT Ds pg pp r L Q C S := hr
  refine ev_gv ?_
  refine ev_gg ⟨by omega, by omega, by omega⟩ ?_
  refine ev_gv ?_
  refine ev_gg (by decide) ?_
  obtain ⟨k, x, l2, hk, hx, hcl, hrf⟩ := pr_rule (D := 2036 - 1) (by decide) hC hR (hXS _)
  refine ev_gc hcl (fun y S1 q => ?_)
  obtain ⟨e0, h6, hC2, hx2⟩ := q
  subst e0
  refine ev_gv ?_
  refine ev_gg ⟨by omega, by omega, by omega⟩ ?_
  refine ev_gv ?_
  exact lw_t1 (fun _ z => z) (rec := fun n S => rec n 2036 2279 S [a4]) hk hx hC2 h6 (hrf S1 (rf_move hR hx2)) (fun S2 a b => hrec l2 S2 a b)
theorem lw_c4 {XL : Nat} {XS : Nat → Int} (hXS : ∀ k, inr (XS k)) {a4 : Int} {l : LT} {S : GS} (h0 : 0 ≤ a4) (h4 : a4 + 4 ≤ (XL : Int)) (hXL : XL ≤ 2048) (hc : CLS l S) (hr : RFS l S S) {rec : Nat → Nat → Nat → GS → List Int → Option (Int × GS)} (hrec : ∀ l2 S2, CLS l2 S2 → RFS l2 S2 S2 → Ev (fun n => rec n 2036 2279 S2 [a4]) one1) : Ev (fun n =>
  gg (1 ≤ 2036) <|
  gc (f_L_read n (2036 - 1) 0 S []) fun x174 S_175 =>
  gc (f_X12_read n (2036 - 1) 0 S_175 []) fun x177 S_178 =>
  gc (f_X12_thrown n (2036 - 1) 0 S_178 []) fun x180 S_181 =>
  gg (inr x180) <|
  gg (inr x174) <|
  if x180 = x174 then (
  if x174 ≠ 0 then (
  rec n 2036 2279 S_181 [a4]
  ) else (
  gv (S_181.1 600 0) fun x187 =>
  gg (inr x177) <|
  gg (inl x187) <|
  gg (inl x177) <|
  gv (lsg x187 x177) fun x192 =>
  gg (inr x192) <|
  if x192 = 0 then (
  rec n 2036 2279 S_181 [a4]
  ) else (
  some (0, S_181)
  )
  )
  ) else (
  some (0, S_181)
  )) one1 := by
  obtain ⟨Ds, pg, pp, r, L, Q, C⟩ := l
  have hC : ClS stT Ds pg pp r L Q C S := hc
  have hR : RfS S stT Ds pg pp r L Q C S := hr
  refine ev_gg (by decide) ?_
  obtain ⟨k, x, l2, hk, hx, hcl, hrf⟩ := pr_read (D := 2036 - 1) (by decide) hC hR 
  refine ev_gc hcl (fun y S1 q => ?_)
  obtain ⟨e0, h6, hC2, hx2⟩ := q
  subst e0
  exact lw_t1 (fun _ z => z) (rec := fun n S => rec n 2036 2279 S [a4]) hk hx hC2 h6 (hrf S1 (rf_move hR hx2)) (fun S2 a b => hrec l2 S2 a b)
theorem lw_c5 {XL : Nat} {XS : Nat → Int} (hXS : ∀ k, inr (XS k)) {a4 : Int} {l : LT} {S : GS} (h0 : 0 ≤ a4) (h4 : a4 + 4 ≤ (XL : Int)) (hXL : XL ≤ 2048) (hc : CLS l S) (hr : RFS l S S) {rec : Nat → Nat → Nat → GS → List Int → Option (Int × GS)} (hrec : ∀ l2 S2, CLS l2 S2 → RFS l2 S2 S2 → Ev (fun n => rec n 2036 2279 S2 [a4]) one1) : Ev (fun n =>
  gv (a4 + 1) fun x197 =>
  gg (0 ≤ x197 ∧ x197 < ((XL : Nat) : Int) ∧ x197 < 2147483648) <|
  gv (XS (x197 : Int).toNat) fun x200 =>
  gv (a4 + 2) fun x202 =>
  gg (0 ≤ x202 ∧ x202 < ((XL : Nat) : Int) ∧ x202 < 2147483648) <|
  gv (XS (x202 : Int).toNat) fun x205 =>
  gg (1 ≤ 2036) <|
  gc (f_L_print n (2036 - 1) 0 S [x200, x205]) fun x208 S_209 =>
  gv (a4 + 1) fun x211 =>
  gg (0 ≤ x211 ∧ x211 < ((XL : Nat) : Int) ∧ x211 < 2147483648) <|
  gv (XS (x211 : Int).toNat) fun x214 =>
  gv (a4 + 2) fun x216 =>
  gg (0 ≤ x216 ∧ x216 < ((XL : Nat) : Int) ∧ x216 < 2147483648) <|
  gv (XS (x216 : Int).toNat) fun x219 =>
  gc (f_X12_print n (2036 - 1) 0 S_209 [x214, x219]) fun x221 S_222 =>
  gc (f_X12_thrown n (2036 - 1) 0 S_222 []) fun x224 S_225 =>
  gg (inr x224) <|
  gg (inr x208) <|
  if x224 = x208 then (
  if x208 ≠ 0 then (
  rec n 2036 2279 S_225 [a4]
  ) else (
  gv (S_225.1 600 0) fun x231 =>
  gg (inr x221) <|
  gg (inl x231) <|
  gg (inl x221) <|
  gv (lsg x231 x221) fun x236 =>
  gg (inr x236) <|
  if x236 = 0 then (
  rec n 2036 2279 S_225 [a4]
  ) else (
  some (0, S_225)
  )
  )
  ) else (
  some (0, S_225)
  )) one1 := by
  obtain ⟨Ds, pg, pp, r, L, Q, C⟩ := l
  have hC : ClS stT Ds pg pp r L Q C S := hc
  have hR : RfS S stT Ds pg pp r L Q C S := hr
  refine ev_gv ?_
  refine ev_gg ⟨by omega, by omega, by omega⟩ ?_
  refine ev_gv ?_
  refine ev_gv ?_
  refine ev_gg ⟨by omega, by omega, by omega⟩ ?_
  refine ev_gv ?_
  refine ev_gg (by decide) ?_
  obtain ⟨k, x, l2, hk, hx, hcl, hrf⟩ := pr_print (D := 2036 - 1) (by decide) hC hR (hXS _) (hXS _)
  refine ev_gc hcl (fun y S1 q => ?_)
  obtain ⟨e0, h6, hC2, hx2⟩ := q
  subst e0
  refine ev_gv ?_
  refine ev_gg ⟨by omega, by omega, by omega⟩ ?_
  refine ev_gv ?_
  refine ev_gv ?_
  refine ev_gg ⟨by omega, by omega, by omega⟩ ?_
  refine ev_gv ?_
  exact lw_t1 (fun _ z => z) (rec := fun n S => rec n 2036 2279 S [a4]) hk hx hC2 h6 (hrf S1 (rf_move hR hx2)) (fun S2 a b => hrec l2 S2 a b)
theorem lw_c6 {XL : Nat} {XS : Nat → Int} (hXS : ∀ k, inr (XS k)) {a4 : Int} {l : LT} {S : GS} (h0 : 0 ≤ a4) (h4 : a4 + 4 ≤ (XL : Int)) (hXL : XL ≤ 2048) (hc : CLS l S) (hr : RFS l S S) {rec : Nat → Nat → Nat → GS → List Int → Option (Int × GS)} (hrec : ∀ l2 S2, CLS l2 S2 → RFS l2 S2 S2 → Ev (fun n => rec n 2036 2279 S2 [a4]) one1) : Ev (fun n =>
  gv (a4 + 1) fun x241 =>
  gg (0 ≤ x241 ∧ x241 < ((XL : Nat) : Int) ∧ x241 < 2147483648) <|
  gv (XS (x241 : Int).toNat) fun x244 =>
  gv (a4 + 2) fun x246 =>
  gg (0 ≤ x246 ∧ x246 < ((XL : Nat) : Int) ∧ x246 < 2147483648) <|
  gv (XS (x246 : Int).toNat) fun x249 =>
  gv (a4 + 3) fun x251 =>
  gg (0 ≤ x251 ∧ x251 < ((XL : Nat) : Int) ∧ x251 < 2147483648) <|
  gv (XS (x251 : Int).toNat) fun x254 =>
  gg (1 ≤ 2036) <|
  gc (f_L_node n (2036 - 1) 0 S [x244, x249, x254]) fun x257 S_258 =>
  gv (a4 + 1) fun x260 =>
  gg (0 ≤ x260 ∧ x260 < ((XL : Nat) : Int) ∧ x260 < 2147483648) <|
  gv (XS (x260 : Int).toNat) fun x263 =>
  gv (a4 + 2) fun x265 =>
  gg (0 ≤ x265 ∧ x265 < ((XL : Nat) : Int) ∧ x265 < 2147483648) <|
  gv (XS (x265 : Int).toNat) fun x268 =>
  gv (a4 + 3) fun x270 =>
  gg (0 ≤ x270 ∧ x270 < ((XL : Nat) : Int) ∧ x270 < 2147483648) <|
  gv (XS (x270 : Int).toNat) fun x273 =>
  gc (f_X12_node n (2036 - 1) 0 S_258 [x263, x268, x273]) fun x275 S_276 =>
  gc (f_X12_thrown n (2036 - 1) 0 S_276 []) fun x278 S_279 =>
  gg (inr x278) <|
  gg (inr x257) <|
  if x278 = x257 then (
  if x257 ≠ 0 then (
  rec n 2036 2279 S_279 [a4]
  ) else (
  gv (S_279.1 600 0) fun x285 =>
  gg (inr x275) <|
  gg (inl x285) <|
  gg (inl x275) <|
  gv (lsg x285 x275) fun x290 =>
  gg (inr x290) <|
  if x290 = 0 then (
  rec n 2036 2279 S_279 [a4]
  ) else (
  some (0, S_279)
  )
  )
  ) else (
  some (0, S_279)
  )) one1 := by
  obtain ⟨Ds, pg, pp, r, L, Q, C⟩ := l
  have hC : ClS stT Ds pg pp r L Q C S := hc
  have hR : RfS S stT Ds pg pp r L Q C S := hr
  refine ev_gv ?_
  refine ev_gg ⟨by omega, by omega, by omega⟩ ?_
  refine ev_gv ?_
  refine ev_gv ?_
  refine ev_gg ⟨by omega, by omega, by omega⟩ ?_
  refine ev_gv ?_
  refine ev_gv ?_
  refine ev_gg ⟨by omega, by omega, by omega⟩ ?_
  refine ev_gv ?_
  refine ev_gg (by decide) ?_
  obtain ⟨k, x, l2, hk, hx, hcl, hrf⟩ := pr_node (D := 2036 - 1) (by decide) hC hR (hXS _) (hXS _) (hXS _)
  refine ev_gc hcl (fun y S1 q => ?_)
  obtain ⟨e0, h6, hC2, hx2⟩ := q
  subst e0
  refine ev_gv ?_
  refine ev_gg ⟨by omega, by omega, by omega⟩ ?_
  refine ev_gv ?_
  refine ev_gv ?_
  refine ev_gg ⟨by omega, by omega, by omega⟩ ?_
  refine ev_gv ?_
  refine ev_gv ?_
  refine ev_gg ⟨by omega, by omega, by omega⟩ ?_
  refine ev_gv ?_
  exact lw_t1 (fun _ z => z) (rec := fun n S => rec n 2036 2279 S [a4]) hk hx hC2 h6 (hrf S1 (rf_move hR hx2)) (fun S2 a b => hrec l2 S2 a b)
theorem lw_c7 {XL : Nat} {XS : Nat → Int} (hXS : ∀ k, inr (XS k)) {a4 : Int} {l : LT} {S : GS} (h0 : 0 ≤ a4) (h4 : a4 + 4 ≤ (XL : Int)) (hXL : XL ≤ 2048) (hc : CLS l S) (hr : RFS l S S) {rec : Nat → Nat → Nat → GS → List Int → Option (Int × GS)} (hrec : ∀ l2 S2, CLS l2 S2 → RFS l2 S2 S2 → Ev (fun n => rec n 2036 2279 S2 [a4]) one1) : Ev (fun n =>
  gv (a4 + 1) fun x295 =>
  gg (0 ≤ x295 ∧ x295 < ((XL : Nat) : Int) ∧ x295 < 2147483648) <|
  gv (XS (x295 : Int).toNat) fun x298 =>
  gv (a4 + 2) fun x300 =>
  gg (0 ≤ x300 ∧ x300 < ((XL : Nat) : Int) ∧ x300 < 2147483648) <|
  gv (XS (x300 : Int).toNat) fun x303 =>
  gv (a4 + 3) fun x305 =>
  gg (0 ≤ x305 ∧ x305 < ((XL : Nat) : Int) ∧ x305 < 2147483648) <|
  gv (XS (x305 : Int).toNat) fun x308 =>
  gg (1 ≤ 2036) <|
  gc (f_L_tell n (2036 - 1) 0 S [x298, x303, x308]) fun x311 S_312 =>
  gv (a4 + 1) fun x314 =>
  gg (0 ≤ x314 ∧ x314 < ((XL : Nat) : Int) ∧ x314 < 2147483648) <|
  gv (XS (x314 : Int).toNat) fun x317 =>
  gv (a4 + 2) fun x319 =>
  gg (0 ≤ x319 ∧ x319 < ((XL : Nat) : Int) ∧ x319 < 2147483648) <|
  gv (XS (x319 : Int).toNat) fun x322 =>
  gv (a4 + 3) fun x324 =>
  gg (0 ≤ x324 ∧ x324 < ((XL : Nat) : Int) ∧ x324 < 2147483648) <|
  gv (XS (x324 : Int).toNat) fun x327 =>
  gc (f_X12_tell n (2036 - 1) 0 S_312 [x317, x322, x327]) fun x329 S_330 =>
  gc (f_X12_thrown n (2036 - 1) 0 S_330 []) fun x332 S_333 =>
  gg (inr x332) <|
  gg (inr x311) <|
  if x332 = x311 then (
  if x311 ≠ 0 then (
  rec n 2036 2279 S_333 [a4]
  ) else (
  gv (S_333.1 600 0) fun x339 =>
  gg (inr x329) <|
  gg (inl x339) <|
  gg (inl x329) <|
  gv (lsg x339 x329) fun x344 =>
  gg (inr x344) <|
  if x344 = 0 then (
  rec n 2036 2279 S_333 [a4]
  ) else (
  some (0, S_333)
  )
  )
  ) else (
  some (0, S_333)
  )) one1 := by
  obtain ⟨Ds, pg, pp, r, L, Q, C⟩ := l
  have hC : ClS stT Ds pg pp r L Q C S := hc
  have hR : RfS S stT Ds pg pp r L Q C S := hr
  refine ev_gv ?_
  refine ev_gg ⟨by omega, by omega, by omega⟩ ?_
  refine ev_gv ?_
  refine ev_gv ?_
  refine ev_gg ⟨by omega, by omega, by omega⟩ ?_
  refine ev_gv ?_
  refine ev_gv ?_
  refine ev_gg ⟨by omega, by omega, by omega⟩ ?_
  refine ev_gv ?_
  refine ev_gg (by decide) ?_
  obtain ⟨k, x, l2, hk, hx, hcl, hrf⟩ := pr_tell (D := 2036 - 1) (by decide) hC hR (hXS _) (hXS _) (hXS _)
  refine ev_gc hcl (fun y S1 q => ?_)
  obtain ⟨e0, h6, hC2, hx2⟩ := q
  subst e0
  refine ev_gv ?_
  refine ev_gg ⟨by omega, by omega, by omega⟩ ?_
  refine ev_gv ?_
  refine ev_gv ?_
  refine ev_gg ⟨by omega, by omega, by omega⟩ ?_
  refine ev_gv ?_
  refine ev_gv ?_
  refine ev_gg ⟨by omega, by omega, by omega⟩ ?_
  refine ev_gv ?_
  exact lw_t1 (fun _ z => z) (rec := fun n S => rec n 2036 2279 S [a4]) hk hx hC2 h6 (hrf S1 (rf_move hR hx2)) (fun S2 a b => hrec l2 S2 a b)
theorem lw_c8 {XL : Nat} {XS : Nat → Int} (hXS : ∀ k, inr (XS k)) {a4 : Int} {l : LT} {S : GS} (h0 : 0 ≤ a4) (h4 : a4 + 4 ≤ (XL : Int)) (hXL : XL ≤ 2048) (hc : CLS l S) (hr : RFS l S S) {rec : Nat → Nat → Nat → GS → List Int → Option (Int × GS)} (hrec : ∀ l2 S2, CLS l2 S2 → RFS l2 S2 S2 → Ev (fun n => rec n 2036 2279 S2 [a4]) one1) : Ev (fun n =>
  gv (a4 + 1) fun x349 =>
  gg (0 ≤ x349 ∧ x349 < ((XL : Nat) : Int) ∧ x349 < 2147483648) <|
  gv (XS (x349 : Int).toNat) fun x352 =>
  gv (a4 + 2) fun x354 =>
  gg (0 ≤ x354 ∧ x354 < ((XL : Nat) : Int) ∧ x354 < 2147483648) <|
  gv (XS (x354 : Int).toNat) fun x357 =>
  gg (1 ≤ 2036) <|
  gc (f_L_equal n (2036 - 1) 0 S [x352, x357]) fun x360 S_361 =>
  gv (a4 + 1) fun x363 =>
  gg (0 ≤ x363 ∧ x363 < ((XL : Nat) : Int) ∧ x363 < 2147483648) <|
  gv (XS (x363 : Int).toNat) fun x366 =>
  gv (a4 + 2) fun x368 =>
  gg (0 ≤ x368 ∧ x368 < ((XL : Nat) : Int) ∧ x368 < 2147483648) <|
  gv (XS (x368 : Int).toNat) fun x371 =>
  gc (f_X12_equal n (2036 - 1) 0 S_361 [x366, x371]) fun x373 S_374 =>
  gc (f_X12_thrown n (2036 - 1) 0 S_374 []) fun x376 S_377 =>
  gg (inr x376) <|
  gg (inr x360) <|
  if x376 = x360 then (
  if x360 ≠ 0 then (
  rec n 2036 2279 S_377 [a4]
  ) else (
  gv (S_377.1 600 0) fun x383 =>
  gg (inr x373) <|
  if x373 = 0 then (
  gg (inl x383) <|
  gv (lsg x383 0) fun x388 =>
  gg (inr x388) <|
  if x388 = 0 then (
  rec n 2036 2279 S_377 [a4]
  ) else (
  some (0, S_377)
  )
  ) else (
  gg (inl x383) <|
  gv (lsg x383 1) fun x393 =>
  gg (inr x393) <|
  if x393 = 0 then (
  rec n 2036 2279 S_377 [a4]
  ) else (
  some (0, S_377)
  )
  )
  )
  ) else (
  some (0, S_377)
  )) one1 := by
  obtain ⟨Ds, pg, pp, r, L, Q, C⟩ := l
  have hC : ClS stT Ds pg pp r L Q C S := hc
  have hR : RfS S stT Ds pg pp r L Q C S := hr
  refine ev_gv ?_
  refine ev_gg ⟨by omega, by omega, by omega⟩ ?_
  refine ev_gv ?_
  refine ev_gv ?_
  refine ev_gg ⟨by omega, by omega, by omega⟩ ?_
  refine ev_gv ?_
  refine ev_gg (by decide) ?_
  obtain ⟨k, x, l2, hk, hx, hcl, hrf⟩ := pr_equal (D := 2036 - 1) (by decide) hC hR (hXS _) (hXS _)
  refine ev_gc hcl (fun y S1 q => ?_)
  obtain ⟨e0, h6, hC2, hx2⟩ := q
  subst e0
  refine ev_gv ?_
  refine ev_gg ⟨by omega, by omega, by omega⟩ ?_
  refine ev_gv ?_
  refine ev_gv ?_
  refine ev_gg ⟨by omega, by omega, by omega⟩ ?_
  refine ev_gv ?_
  exact lw_t3 (rec := fun n S => rec n 2036 2279 S [a4]) hk hx hC2 h6 (hrf S1 (rf_move hR hx2)) (fun S2 a b => hrec l2 S2 a b)
theorem lw_c9 {XL : Nat} {XS : Nat → Int} (hXS : ∀ k, inr (XS k)) {a4 : Int} {l : LT} {S : GS} (h0 : 0 ≤ a4) (h4 : a4 + 4 ≤ (XL : Int)) (hXL : XL ≤ 2048) (hc : CLS l S) (hr : RFS l S S) {rec : Nat → Nat → Nat → GS → List Int → Option (Int × GS)} (hrec : ∀ l2 S2, CLS l2 S2 → RFS l2 S2 S2 → Ev (fun n => rec n 2036 2279 S2 [a4]) one1) : Ev (fun n =>
  gv (a4 + 1) fun x398 =>
  gg (0 ≤ x398 ∧ x398 < ((XL : Nat) : Int) ∧ x398 < 2147483648) <|
  gv (XS (x398 : Int).toNat) fun x401 =>
  gv (a4 + 2) fun x403 =>
  gg (0 ≤ x403 ∧ x403 < ((XL : Nat) : Int) ∧ x403 < 2147483648) <|
  gv (XS (x403 : Int).toNat) fun x406 =>
  gg (1 ≤ 2036) <|
  gc (f_L_compare n (2036 - 1) 0 S [x401, x406]) fun x409 S_410 =>
  gv (a4 + 1) fun x412 =>
  gg (0 ≤ x412 ∧ x412 < ((XL : Nat) : Int) ∧ x412 < 2147483648) <|
  gv (XS (x412 : Int).toNat) fun x415 =>
  gv (a4 + 2) fun x417 =>
  gg (0 ≤ x417 ∧ x417 < ((XL : Nat) : Int) ∧ x417 < 2147483648) <|
  gv (XS (x417 : Int).toNat) fun x420 =>
  gc (f_X12_compare n (2036 - 1) 0 S_410 [x415, x420]) fun x422 S_423 =>
  gc (f_X12_thrown n (2036 - 1) 0 S_423 []) fun x425 S_426 =>
  gg (inr x425) <|
  gg (inr x409) <|
  if x425 = x409 then (
  if x409 ≠ 0 then (
  rec n 2036 2279 S_426 [a4]
  ) else (
  gv (S_426.1 600 0) fun x432 =>
  gg (inr x422) <|
  gg (inl x432) <|
  gg (inl x422) <|
  gv (lsg x432 x422) fun x437 =>
  gg (inr x437) <|
  if x437 = 0 then (
  rec n 2036 2279 S_426 [a4]
  ) else (
  some (0, S_426)
  )
  )
  ) else (
  some (0, S_426)
  )) one1 := by
  obtain ⟨Ds, pg, pp, r, L, Q, C⟩ := l
  have hC : ClS stT Ds pg pp r L Q C S := hc
  have hR : RfS S stT Ds pg pp r L Q C S := hr
  refine ev_gv ?_
  refine ev_gg ⟨by omega, by omega, by omega⟩ ?_
  refine ev_gv ?_
  refine ev_gv ?_
  refine ev_gg ⟨by omega, by omega, by omega⟩ ?_
  refine ev_gv ?_
  refine ev_gg (by decide) ?_
  obtain ⟨k, x, l2, hk, hx, hcl, hrf⟩ := pr_compare (D := 2036 - 1) (by decide) hC hR (hXS _) (hXS _)
  refine ev_gc hcl (fun y S1 q => ?_)
  obtain ⟨e0, h6, hC2, hx2⟩ := q
  subst e0
  refine ev_gv ?_
  refine ev_gg ⟨by omega, by omega, by omega⟩ ?_
  refine ev_gv ?_
  refine ev_gv ?_
  refine ev_gg ⟨by omega, by omega, by omega⟩ ?_
  refine ev_gv ?_
  exact lw_t1 (fun _ z => z) (rec := fun n S => rec n 2036 2279 S [a4]) hk hx hC2 h6 (hrf S1 (rf_move hR hx2)) (fun S2 a b => hrec l2 S2 a b)
theorem lw_c10 {XL : Nat} {XS : Nat → Int} (hXS : ∀ k, inr (XS k)) {a4 : Int} {l : LT} {S : GS} (h0 : 0 ≤ a4) (h4 : a4 + 4 ≤ (XL : Int)) (hXL : XL ≤ 2048) (hc : CLS l S) (hr : RFS l S S) {rec : Nat → Nat → Nat → GS → List Int → Option (Int × GS)} (hrec : ∀ l2 S2, CLS l2 S2 → RFS l2 S2 S2 → Ev (fun n => rec n 2036 2279 S2 [a4]) one1) : Ev (fun n =>
  gv (a4 + 1) fun x442 =>
  gg (0 ≤ x442 ∧ x442 < ((XL : Nat) : Int) ∧ x442 < 2147483648) <|
  gv (XS (x442 : Int).toNat) fun x445 =>
  gv (a4 + 2) fun x447 =>
  gg (0 ≤ x447 ∧ x447 < ((XL : Nat) : Int) ∧ x447 < 2147483648) <|
  gv (XS (x447 : Int).toNat) fun x450 =>
  gg (1 ≤ 2036) <|
  gc (f_L_digest n (2036 - 1) 0 S [x445, x450]) fun x453 S_454 =>
  gv (a4 + 1) fun x456 =>
  gg (0 ≤ x456 ∧ x456 < ((XL : Nat) : Int) ∧ x456 < 2147483648) <|
  gv (XS (x456 : Int).toNat) fun x459 =>
  gv (a4 + 2) fun x461 =>
  gg (0 ≤ x461 ∧ x461 < ((XL : Nat) : Int) ∧ x461 < 2147483648) <|
  gv (XS (x461 : Int).toNat) fun x464 =>
  gc (f_X12_digest n (2036 - 1) 0 S_454 [x459, x464]) fun x466 S_467 =>
  gc (f_X12_thrown n (2036 - 1) 0 S_467 []) fun x469 S_470 =>
  gg (inr x469) <|
  gg (inr x453) <|
  if x469 = x453 then (
  if x453 ≠ 0 then (
  rec n 2036 2279 S_470 [a4]
  ) else (
  gv (S_470.1 600 0) fun x476 =>
  gg (inr x466) <|
  gg (inl x476) <|
  gg (inl x466) <|
  gv (lsg x476 x466) fun x481 =>
  gg (inr x481) <|
  if x481 = 0 then (
  rec n 2036 2279 S_470 [a4]
  ) else (
  some (0, S_470)
  )
  )
  ) else (
  some (0, S_470)
  )) one1 := by
  obtain ⟨Ds, pg, pp, r, L, Q, C⟩ := l
  have hC : ClS stT Ds pg pp r L Q C S := hc
  have hR : RfS S stT Ds pg pp r L Q C S := hr
  refine ev_gv ?_
  refine ev_gg ⟨by omega, by omega, by omega⟩ ?_
  refine ev_gv ?_
  refine ev_gv ?_
  refine ev_gg ⟨by omega, by omega, by omega⟩ ?_
  refine ev_gv ?_
  refine ev_gg (by decide) ?_
  obtain ⟨k, x, l2, hk, hx, hcl, hrf⟩ := pr_digest (D := 2036 - 1) (by decide) hC hR (hXS _) (hXS _)
  refine ev_gc hcl (fun y S1 q => ?_)
  obtain ⟨e0, h6, hC2, hx2⟩ := q
  subst e0
  refine ev_gv ?_
  refine ev_gg ⟨by omega, by omega, by omega⟩ ?_
  refine ev_gv ?_
  refine ev_gv ?_
  refine ev_gg ⟨by omega, by omega, by omega⟩ ?_
  refine ev_gv ?_
  exact lw_t1 (fun _ z => z) (rec := fun n S => rec n 2036 2279 S [a4]) hk hx hC2 h6 (hrf S1 (rf_move hR hx2)) (fun S2 a b => hrec l2 S2 a b)
theorem lw_c11 {XL : Nat} {XS : Nat → Int} (hXS : ∀ k, inr (XS k)) {a4 : Int} {l : LT} {S : GS} (h0 : 0 ≤ a4) (h4 : a4 + 4 ≤ (XL : Int)) (hXL : XL ≤ 2048) (hc : CLS l S) (hr : RFS l S S) {rec : Nat → Nat → Nat → GS → List Int → Option (Int × GS)} (hrec : ∀ l2 S2, CLS l2 S2 → RFS l2 S2 S2 → Ev (fun n => rec n 2036 2279 S2 [a4]) one1) : Ev (fun n =>
  gv (a4 + 1) fun x486 =>
  gg (0 ≤ x486 ∧ x486 < ((XL : Nat) : Int) ∧ x486 < 2147483648) <|
  gv (XS (x486 : Int).toNat) fun x489 =>
  gv (a4 + 2) fun x491 =>
  gg (0 ≤ x491 ∧ x491 < ((XL : Nat) : Int) ∧ x491 < 2147483648) <|
  gv (XS (x491 : Int).toNat) fun x494 =>
  gg (1 ≤ 2036) <|
  gc (f_L_take n (2036 - 1) 0 S [x489, x494]) fun x497 S_498 =>
  gv (a4 + 1) fun x500 =>
  gg (0 ≤ x500 ∧ x500 < ((XL : Nat) : Int) ∧ x500 < 2147483648) <|
  gv (XS (x500 : Int).toNat) fun x503 =>
  gv (a4 + 2) fun x505 =>
  gg (0 ≤ x505 ∧ x505 < ((XL : Nat) : Int) ∧ x505 < 2147483648) <|
  gv (XS (x505 : Int).toNat) fun x508 =>
  gc (f_X12_take n (2036 - 1) 0 S_498 [x503, x508]) fun x510 S_511 =>
  gc (f_X12_thrown n (2036 - 1) 0 S_511 []) fun x513 S_514 =>
  gg (inr x513) <|
  gg (inr x497) <|
  if x513 = x497 then (
  if x497 ≠ 0 then (
  rec n 2036 2279 S_514 [a4]
  ) else (
  gv (S_514.1 600 0) fun x520 =>
  gg (inr x510) <|
  gg (inl x520) <|
  gg (inl x510) <|
  gv (lsg x520 x510) fun x525 =>
  gg (inr x525) <|
  if x525 = 0 then (
  rec n 2036 2279 S_514 [a4]
  ) else (
  some (0, S_514)
  )
  )
  ) else (
  some (0, S_514)
  )) one1 := by
  obtain ⟨Ds, pg, pp, r, L, Q, C⟩ := l
  have hC : ClS stT Ds pg pp r L Q C S := hc
  have hR : RfS S stT Ds pg pp r L Q C S := hr
  refine ev_gv ?_
  refine ev_gg ⟨by omega, by omega, by omega⟩ ?_
  refine ev_gv ?_
  refine ev_gv ?_
  refine ev_gg ⟨by omega, by omega, by omega⟩ ?_
  refine ev_gv ?_
  refine ev_gg (by decide) ?_
  obtain ⟨k, x, l2, hk, hx, hcl, hrf⟩ := pr_take (D := 2036 - 1) (by decide) hC hR (hXS _) (hXS _)
  refine ev_gc hcl (fun y S1 q => ?_)
  obtain ⟨e0, h6, hC2, hx2⟩ := q
  subst e0
  refine ev_gv ?_
  refine ev_gg ⟨by omega, by omega, by omega⟩ ?_
  refine ev_gv ?_
  refine ev_gv ?_
  refine ev_gg ⟨by omega, by omega, by omega⟩ ?_
  refine ev_gv ?_
  exact lw_t1 (fun _ z => z) (rec := fun n S => rec n 2036 2279 S [a4]) hk hx hC2 h6 (hrf S1 (rf_move hR hx2)) (fun S2 a b => hrec l2 S2 a b)
theorem lw_c12 {XL : Nat} {XS : Nat → Int} (hXS : ∀ k, inr (XS k)) {a4 : Int} {l : LT} {S : GS} (h0 : 0 ≤ a4) (h4 : a4 + 4 ≤ (XL : Int)) (hXL : XL ≤ 2048) (hc : CLS l S) (hr : RFS l S S) {rec : Nat → Nat → Nat → GS → List Int → Option (Int × GS)} (hrec : ∀ l2 S2, CLS l2 S2 → RFS l2 S2 S2 → Ev (fun n => rec n 2036 2279 S2 [a4]) one1) : Ev (fun n =>
  gv (a4 + 1) fun x530 =>
  gg (0 ≤ x530 ∧ x530 < ((XL : Nat) : Int) ∧ x530 < 2147483648) <|
  gv (XS (x530 : Int).toNat) fun x533 =>
  gg (1 ≤ 2036) <|
  gc (f_L_sorted n (2036 - 1) 0 S [x533]) fun x536 S_537 =>
  gv (a4 + 1) fun x539 =>
  gg (0 ≤ x539 ∧ x539 < ((XL : Nat) : Int) ∧ x539 < 2147483648) <|
  gv (XS (x539 : Int).toNat) fun x542 =>
  gc (f_X12_sorted n (2036 - 1) 0 S_537 [x542]) fun x544 S_545 =>
  gc (f_X12_thrown n (2036 - 1) 0 S_545 []) fun x547 S_548 =>
  gg (inr x547) <|
  gg (inr x536) <|
  if x547 = x536 then (
  if x536 ≠ 0 then (
  rec n 2036 2279 S_548 [a4]
  ) else (
  gv (S_548.1 600 0) fun x554 =>
  gg (inr x544) <|
  gg (inl x554) <|
  gg (inl x544) <|
  gv (lsg x554 x544) fun x559 =>
  gg (inr x559) <|
  if x559 = 0 then (
  rec n 2036 2279 S_548 [a4]
  ) else (
  some (0, S_548)
  )
  )
  ) else (
  some (0, S_548)
  )) one1 := by
  obtain ⟨Ds, pg, pp, r, L, Q, C⟩ := l
  have hC : ClS stT Ds pg pp r L Q C S := hc
  have hR : RfS S stT Ds pg pp r L Q C S := hr
  refine ev_gv ?_
  refine ev_gg ⟨by omega, by omega, by omega⟩ ?_
  refine ev_gv ?_
  refine ev_gg (by decide) ?_
  obtain ⟨k, x, l2, hk, hx, hcl, hrf⟩ := pr_sorted (D := 2036 - 1) (by decide) hC hR (hXS _)
  refine ev_gc hcl (fun y S1 q => ?_)
  obtain ⟨e0, h6, hC2, hx2⟩ := q
  subst e0
  refine ev_gv ?_
  refine ev_gg ⟨by omega, by omega, by omega⟩ ?_
  refine ev_gv ?_
  exact lw_t1 (fun _ z => z) (rec := fun n S => rec n 2036 2279 S [a4]) hk hx hC2 h6 (hrf S1 (rf_move hR hx2)) (fun S2 a b => hrec l2 S2 a b)
theorem lw_c13 {XL : Nat} {XS : Nat → Int} (hXS : ∀ k, inr (XS k)) {a4 : Int} {l : LT} {S : GS} (h0 : 0 ≤ a4) (h4 : a4 + 4 ≤ (XL : Int)) (hXL : XL ≤ 2048) (hc : CLS l S) (hr : RFS l S S) {rec : Nat → Nat → Nat → GS → List Int → Option (Int × GS)} (hrec : ∀ l2 S2, CLS l2 S2 → RFS l2 S2 S2 → Ev (fun n => rec n 2036 2279 S2 [a4]) one1) : Ev (fun n =>
  gv (a4 + 1) fun x564 =>
  gg (0 ≤ x564 ∧ x564 < ((XL : Nat) : Int) ∧ x564 < 2147483648) <|
  gv (XS (x564 : Int).toNat) fun x567 =>
  gv (a4 + 2) fun x569 =>
  gg (0 ≤ x569 ∧ x569 < ((XL : Nat) : Int) ∧ x569 < 2147483648) <|
  gv (XS (x569 : Int).toNat) fun x572 =>
  gg (1 ≤ 2036) <|
  gc (f_L_both n (2036 - 1) 0 S [x567, x572]) fun x575 S_576 =>
  gv (a4 + 1) fun x578 =>
  gg (0 ≤ x578 ∧ x578 < ((XL : Nat) : Int) ∧ x578 < 2147483648) <|
  gv (XS (x578 : Int).toNat) fun x581 =>
  gv (a4 + 2) fun x583 =>
  gg (0 ≤ x583 ∧ x583 < ((XL : Nat) : Int) ∧ x583 < 2147483648) <|
  gv (XS (x583 : Int).toNat) fun x586 =>
  gc (f_X12_both n (2036 - 1) 0 S_576 [x581, x586]) fun x588 S_589 =>
  gc (f_X12_thrown n (2036 - 1) 0 S_589 []) fun x591 S_592 =>
  gg (inr x591) <|
  gg (inr x575) <|
  if x591 = x575 then (
  if x575 ≠ 0 then (
  rec n 2036 2279 S_592 [a4]
  ) else (
  gv (S_592.1 600 0) fun x598 =>
  gg (inr x588) <|
  gg (inl x598) <|
  gg (inl x588) <|
  gv (lsg x598 x588) fun x603 =>
  gg (inr x603) <|
  if x603 = 0 then (
  rec n 2036 2279 S_592 [a4]
  ) else (
  some (0, S_592)
  )
  )
  ) else (
  some (0, S_592)
  )) one1 := by
  obtain ⟨Ds, pg, pp, r, L, Q, C⟩ := l
  have hC : ClS stT Ds pg pp r L Q C S := hc
  have hR : RfS S stT Ds pg pp r L Q C S := hr
  refine ev_gv ?_
  refine ev_gg ⟨by omega, by omega, by omega⟩ ?_
  refine ev_gv ?_
  refine ev_gv ?_
  refine ev_gg ⟨by omega, by omega, by omega⟩ ?_
  refine ev_gv ?_
  refine ev_gg (by decide) ?_
  obtain ⟨k, x, l2, hk, hx, hcl, hrf⟩ := pr_both (D := 2036 - 1) (by decide) hC hR (hXS _) (hXS _)
  refine ev_gc hcl (fun y S1 q => ?_)
  obtain ⟨e0, h6, hC2, hx2⟩ := q
  subst e0
  refine ev_gv ?_
  refine ev_gg ⟨by omega, by omega, by omega⟩ ?_
  refine ev_gv ?_
  refine ev_gv ?_
  refine ev_gg ⟨by omega, by omega, by omega⟩ ?_
  refine ev_gv ?_
  exact lw_t1 (fun _ z => z) (rec := fun n S => rec n 2036 2279 S [a4]) hk hx hC2 h6 (hrf S1 (rf_move hR hx2)) (fun S2 a b => hrec l2 S2 a b)
theorem lw_c14 {XL : Nat} {XS : Nat → Int} (hXS : ∀ k, inr (XS k)) {a4 : Int} {l : LT} {S : GS} (h0 : 0 ≤ a4) (h4 : a4 + 4 ≤ (XL : Int)) (hXL : XL ≤ 2048) (hc : CLS l S) (hr : RFS l S S) {rec : Nat → Nat → Nat → GS → List Int → Option (Int × GS)} (hrec : ∀ l2 S2, CLS l2 S2 → RFS l2 S2 S2 → Ev (fun n => rec n 2036 2279 S2 [a4]) one1) : Ev (fun n =>
  gg (1 ≤ 2036) <|
  gc (f_L_undo n (2036 - 1) 0 S []) fun x609 S_610 =>
  gc (f_X12_undo n (2036 - 1) 0 S_610 []) fun x612 S_613 =>
  gc (f_X12_thrown n (2036 - 1) 0 S_613 []) fun x615 S_616 =>
  gg (inr x615) <|
  gg (inr x609) <|
  if x615 = x609 then (
  if x609 ≠ 0 then (
  rec n 2036 2279 S_616 [a4]
  ) else (
  gv (S_616.1 600 0) fun x622 =>
  gg (inr x612) <|
  gg (inl x622) <|
  gg (inl x612) <|
  gv (lsg x622 x612) fun x627 =>
  gg (inr x627) <|
  if x627 = 0 then (
  rec n 2036 2279 S_616 [a4]
  ) else (
  some (0, S_616)
  )
  )
  ) else (
  some (0, S_616)
  )) one1 := by
  obtain ⟨Ds, pg, pp, r, L, Q, C⟩ := l
  have hC : ClS stT Ds pg pp r L Q C S := hc
  have hR : RfS S stT Ds pg pp r L Q C S := hr
  refine ev_gg (by decide) ?_
  obtain ⟨k, x, l2, hk, hx, hcl, hrf⟩ := pr_undo (D := 2036 - 1) (by decide) hC hR 
  refine ev_gc hcl (fun y S1 q => ?_)
  obtain ⟨e0, h6, hC2, hx2⟩ := q
  subst e0
  exact lw_t1 (fun _ z => z) (rec := fun n S => rec n 2036 2279 S [a4]) hk hx hC2 h6 (hrf S1 (rf_move hR hx2)) (fun S2 a b => hrec l2 S2 a b)
theorem lw_c15 {XL : Nat} {XS : Nat → Int} (hXS : ∀ k, inr (XS k)) {a4 : Int} {l : LT} {S : GS} (h0 : 0 ≤ a4) (h4 : a4 + 4 ≤ (XL : Int)) (hXL : XL ≤ 2048) (hc : CLS l S) (hr : RFS l S S) {rec : Nat → Nat → Nat → GS → List Int → Option (Int × GS)} (hrec : ∀ l2 S2, CLS l2 S2 → RFS l2 S2 S2 → Ev (fun n => rec n 2036 2279 S2 [a4]) one1) : Ev (fun n =>
  gv (a4 + 1) fun x632 =>
  gg (0 ≤ x632 ∧ x632 < ((XL : Nat) : Int) ∧ x632 < 2147483648) <|
  gv (XS (x632 : Int).toNat) fun x635 =>
  gg (1 ≤ 2036) <|
  gc (f_L_select n (2036 - 1) 0 S [x635]) fun x638 S_639 =>
  gv (a4 + 1) fun x641 =>
  gg (0 ≤ x641 ∧ x641 < ((XL : Nat) : Int) ∧ x641 < 2147483648) <|
  gv (XS (x641 : Int).toNat) fun x644 =>
  gc (f_X12_select n (2036 - 1) 0 S_639 [x644]) fun x646 S_647 =>
  gc (f_X12_thrown n (2036 - 1) 0 S_647 []) fun x649 S_650 =>
  gg (inr x649) <|
  gg (inr x638) <|
  if x649 = x638 then (
  if x638 ≠ 0 then (
  rec n 2036 2279 S_650 [a4]
  ) else (
  gv (S_650.1 600 0) fun x656 =>
  gg (inr x646) <|
  gg (inl x656) <|
  gg (inl x646) <|
  gv (lsg x656 x646) fun x661 =>
  gg (inr x661) <|
  if x661 = 0 then (
  rec n 2036 2279 S_650 [a4]
  ) else (
  some (0, S_650)
  )
  )
  ) else (
  some (0, S_650)
  )) one1 := by
  obtain ⟨Ds, pg, pp, r, L, Q, C⟩ := l
  have hC : ClS stT Ds pg pp r L Q C S := hc
  have hR : RfS S stT Ds pg pp r L Q C S := hr
  refine ev_gv ?_
  refine ev_gg ⟨by omega, by omega, by omega⟩ ?_
  refine ev_gv ?_
  refine ev_gg (by decide) ?_
  obtain ⟨k, x, l2, hk, hx, hcl, hrf⟩ := pr_select (D := 2036 - 1) (by decide) hC hR (hXS _)
  refine ev_gc hcl (fun y S1 q => ?_)
  obtain ⟨e0, h6, hC2, hx2⟩ := q
  subst e0
  refine ev_gv ?_
  refine ev_gg ⟨by omega, by omega, by omega⟩ ?_
  refine ev_gv ?_
  exact lw_t1 (fun _ z => z) (rec := fun n S => rec n 2036 2279 S [a4]) hk hx hC2 h6 (hrf S1 (rf_move hR hx2)) (fun S2 a b => hrec l2 S2 a b)
theorem lw_c16 {XL : Nat} {XS : Nat → Int} (hXS : ∀ k, inr (XS k)) {a4 : Int} {l : LT} {S : GS} (h0 : 0 ≤ a4) (h4 : a4 + 4 ≤ (XL : Int)) (hXL : XL ≤ 2048) (hc : CLS l S) (hr : RFS l S S) {rec : Nat → Nat → Nat → GS → List Int → Option (Int × GS)} (hrec : ∀ l2 S2, CLS l2 S2 → RFS l2 S2 S2 → Ev (fun n => rec n 2036 2279 S2 [a4]) one1) : Ev (fun n =>
  gv (a4 + 1) fun x666 =>
  gg (0 ≤ x666 ∧ x666 < ((XL : Nat) : Int) ∧ x666 < 2147483648) <|
  gv (XS (x666 : Int).toNat) fun x669 =>
  gg (1 ≤ 2036) <|
  gc (f_L_find n (2036 - 1) 0 S [x669]) fun x672 S_673 =>
  gv (a4 + 1) fun x675 =>
  gg (0 ≤ x675 ∧ x675 < ((XL : Nat) : Int) ∧ x675 < 2147483648) <|
  gv (XS (x675 : Int).toNat) fun x678 =>
  gc (f_X12_find n (2036 - 1) 0 S_673 [x678]) fun x680 S_681 =>
  gc (f_X12_thrown n (2036 - 1) 0 S_681 []) fun x683 S_684 =>
  gg (inr x683) <|
  gg (inr x672) <|
  if x683 = x672 then (
  if x672 ≠ 0 then (
  rec n 2036 2279 S_684 [a4]
  ) else (
  gv (S_684.1 600 0) fun x690 =>
  gg (inr x680) <|
  gg (inl x690) <|
  gg (inl x680) <|
  gv (lsg x690 x680) fun x695 =>
  gg (inr x695) <|
  if x695 = 0 then (
  rec n 2036 2279 S_684 [a4]
  ) else (
  some (0, S_684)
  )
  )
  ) else (
  some (0, S_684)
  )) one1 := by
  obtain ⟨Ds, pg, pp, r, L, Q, C⟩ := l
  have hC : ClS stT Ds pg pp r L Q C S := hc
  have hR : RfS S stT Ds pg pp r L Q C S := hr
  refine ev_gv ?_
  refine ev_gg ⟨by omega, by omega, by omega⟩ ?_
  refine ev_gv ?_
  refine ev_gg (by decide) ?_
  obtain ⟨k, x, l2, hk, hx, hcl, hrf⟩ := pr_find (D := 2036 - 1) (by decide) hC hR (hXS _)
  refine ev_gc hcl (fun y S1 q => ?_)
  obtain ⟨e0, h6, hC2, hx2⟩ := q
  subst e0
  refine ev_gv ?_
  refine ev_gg ⟨by omega, by omega, by omega⟩ ?_
  refine ev_gv ?_
  exact lw_t1 (fun _ z => z) (rec := fun n S => rec n 2036 2279 S [a4]) hk hx hC2 h6 (hrf S1 (rf_move hR hx2)) (fun S2 a b => hrec l2 S2 a b)
theorem lw_c17 {XL : Nat} {XS : Nat → Int} (hXS : ∀ k, inr (XS k)) {a4 : Int} {l : LT} {S : GS} (h0 : 0 ≤ a4) (h4 : a4 + 4 ≤ (XL : Int)) (hXL : XL ≤ 2048) (hc : CLS l S) (hr : RFS l S S) {rec : Nat → Nat → Nat → GS → List Int → Option (Int × GS)} (hrec : ∀ l2 S2, CLS l2 S2 → RFS l2 S2 S2 → Ev (fun n => rec n 2036 2279 S2 [a4]) one1) : Ev (fun n =>
  gv (a4 + 1) fun x700 =>
  gg (0 ≤ x700 ∧ x700 < ((XL : Nat) : Int) ∧ x700 < 2147483648) <|
  gv (XS (x700 : Int).toNat) fun x703 =>
  gv (a4 + 2) fun x705 =>
  gg (0 ≤ x705 ∧ x705 < ((XL : Nat) : Int) ∧ x705 < 2147483648) <|
  gv (XS (x705 : Int).toNat) fun x708 =>
  gg (1 ≤ 2036) <|
  gc (f_L_put n (2036 - 1) 0 S [x703, x708]) fun x711 S_712 =>
  gv (a4 + 1) fun x714 =>
  gg (0 ≤ x714 ∧ x714 < ((XL : Nat) : Int) ∧ x714 < 2147483648) <|
  gv (XS (x714 : Int).toNat) fun x717 =>
  gv (a4 + 2) fun x719 =>
  gg (0 ≤ x719 ∧ x719 < ((XL : Nat) : Int) ∧ x719 < 2147483648) <|
  gv (XS (x719 : Int).toNat) fun x722 =>
  gc (f_X12_put n (2036 - 1) 0 S_712 [x717, x722]) fun x724 S_725 =>
  gc (f_X12_thrown n (2036 - 1) 0 S_725 []) fun x727 S_728 =>
  gg (inr x727) <|
  gg (inr x711) <|
  if x727 = x711 then (
  if x711 ≠ 0 then (
  rec n 2036 2279 S_728 [a4]
  ) else (
  gv (S_728.1 600 0) fun x734 =>
  gg (inr x724) <|
  gg (inl x734) <|
  gg (inl x724) <|
  gv (lsg x734 x724) fun x739 =>
  gg (inr x739) <|
  if x739 = 0 then (
  rec n 2036 2279 S_728 [a4]
  ) else (
  some (0, S_728)
  )
  )
  ) else (
  some (0, S_728)
  )) one1 := by
  obtain ⟨Ds, pg, pp, r, L, Q, C⟩ := l
  have hC : ClS stT Ds pg pp r L Q C S := hc
  have hR : RfS S stT Ds pg pp r L Q C S := hr
  refine ev_gv ?_
  refine ev_gg ⟨by omega, by omega, by omega⟩ ?_
  refine ev_gv ?_
  refine ev_gv ?_
  refine ev_gg ⟨by omega, by omega, by omega⟩ ?_
  refine ev_gv ?_
  refine ev_gg (by decide) ?_
  obtain ⟨k, x, l2, hk, hx, hcl, hrf⟩ := pr_put (D := 2036 - 1) (by decide) hC hR (hXS _) (hXS _)
  refine ev_gc hcl (fun y S1 q => ?_)
  obtain ⟨e0, h6, hC2, hx2⟩ := q
  subst e0
  refine ev_gv ?_
  refine ev_gg ⟨by omega, by omega, by omega⟩ ?_
  refine ev_gv ?_
  refine ev_gv ?_
  refine ev_gg ⟨by omega, by omega, by omega⟩ ?_
  refine ev_gv ?_
  exact lw_t1 (fun _ z => z) (rec := fun n S => rec n 2036 2279 S [a4]) hk hx hC2 h6 (hrf S1 (rf_move hR hx2)) (fun S2 a b => hrec l2 S2 a b)
theorem lw_c18 {XL : Nat} {XS : Nat → Int} (hXS : ∀ k, inr (XS k)) {a4 : Int} {l : LT} {S : GS} (h0 : 0 ≤ a4) (h4 : a4 + 4 ≤ (XL : Int)) (hXL : XL ≤ 2048) (hc : CLS l S) (hr : RFS l S S) {rec : Nat → Nat → Nat → GS → List Int → Option (Int × GS)} (hrec : ∀ l2 S2, CLS l2 S2 → RFS l2 S2 S2 → Ev (fun n => rec n 2036 2279 S2 [a4]) one1) : Ev (fun n =>
  gv (a4 + 1) fun x744 =>
  gg (0 ≤ x744 ∧ x744 < ((XL : Nat) : Int) ∧ x744 < 2147483648) <|
  gv (XS (x744 : Int).toNat) fun x747 =>
  gg (1 ≤ 2036) <|
  gc (f_L_cut n (2036 - 1) 0 S [x747]) fun x750 S_751 =>
  gv (a4 + 1) fun x753 =>
  gg (0 ≤ x753 ∧ x753 < ((XL : Nat) : Int) ∧ x753 < 2147483648) <|
  gv (XS (x753 : Int).toNat) fun x756 =>
  gc (f_X12_cut n (2036 - 1) 0 S_751 [x756]) fun x758 S_759 =>
  gc (f_X12_thrown n (2036 - 1) 0 S_759 []) fun x761 S_762 =>
  gg (inr x761) <|
  gg (inr x750) <|
  if x761 = x750 then (
  if x750 ≠ 0 then (
  rec n 2036 2279 S_762 [a4]
  ) else (
  gv (S_762.1 600 0) fun x768 =>
  gg (inr x758) <|
  gg (inl x768) <|
  gg (inl x758) <|
  gv (lsg x768 x758) fun x773 =>
  gg (inr x773) <|
  if x773 = 0 then (
  rec n 2036 2279 S_762 [a4]
  ) else (
  some (0, S_762)
  )
  )
  ) else (
  some (0, S_762)
  )) one1 := by
  obtain ⟨Ds, pg, pp, r, L, Q, C⟩ := l
  have hC : ClS stT Ds pg pp r L Q C S := hc
  have hR : RfS S stT Ds pg pp r L Q C S := hr
  refine ev_gv ?_
  refine ev_gg ⟨by omega, by omega, by omega⟩ ?_
  refine ev_gv ?_
  refine ev_gg (by decide) ?_
  obtain ⟨k, x, l2, hk, hx, hcl, hrf⟩ := pr_cut (D := 2036 - 1) (by decide) hC hR (hXS _)
  refine ev_gc hcl (fun y S1 q => ?_)
  obtain ⟨e0, h6, hC2, hx2⟩ := q
  subst e0
  refine ev_gv ?_
  refine ev_gg ⟨by omega, by omega, by omega⟩ ?_
  refine ev_gv ?_
  exact lw_t1 (fun _ z => z) (rec := fun n S => rec n 2036 2279 S [a4]) hk hx hC2 h6 (hrf S1 (rf_move hR hx2)) (fun S2 a b => hrec l2 S2 a b)
theorem lw_c19 {XL : Nat} {XS : Nat → Int} (hXS : ∀ k, inr (XS k)) {a4 : Int} {l : LT} {S : GS} (h0 : 0 ≤ a4) (h4 : a4 + 4 ≤ (XL : Int)) (hXL : XL ≤ 2048) (hc : CLS l S) (hr : RFS l S S) {rec : Nat → Nat → Nat → GS → List Int → Option (Int × GS)} (hrec : ∀ l2 S2, CLS l2 S2 → RFS l2 S2 S2 → Ev (fun n => rec n 2036 2279 S2 [a4]) one1) : Ev (fun n =>
  gv (a4 + 1) fun x778 =>
  gg (0 ≤ x778 ∧ x778 < ((XL : Nat) : Int) ∧ x778 < 2147483648) <|
  gv (XS (x778 : Int).toNat) fun x781 =>
  gv (a4 + 2) fun x783 =>
  gg (0 ≤ x783 ∧ x783 < ((XL : Nat) : Int) ∧ x783 < 2147483648) <|
  gv (XS (x783 : Int).toNat) fun x786 =>
  gg (1 ≤ 2036) <|
  gc (f_L_lay n (2036 - 1) 0 S [x781, x786]) fun x789 S_790 =>
  gv (a4 + 1) fun x792 =>
  gg (0 ≤ x792 ∧ x792 < ((XL : Nat) : Int) ∧ x792 < 2147483648) <|
  gv (XS (x792 : Int).toNat) fun x795 =>
  gv (a4 + 2) fun x797 =>
  gg (0 ≤ x797 ∧ x797 < ((XL : Nat) : Int) ∧ x797 < 2147483648) <|
  gv (XS (x797 : Int).toNat) fun x800 =>
  gc (f_X12_lay n (2036 - 1) 0 S_790 [x795, x800]) fun x802 S_803 =>
  gc (f_X12_thrown n (2036 - 1) 0 S_803 []) fun x805 S_806 =>
  gg (inr x805) <|
  gg (inr x789) <|
  if x805 = x789 then (
  if x789 ≠ 0 then (
  rec n 2036 2279 S_806 [a4]
  ) else (
  gv (S_806.1 600 0) fun x812 =>
  gg (inr x802) <|
  gg (inl x812) <|
  gg (inl x802) <|
  gv (lsg x812 x802) fun x817 =>
  gg (inr x817) <|
  if x817 = 0 then (
  rec n 2036 2279 S_806 [a4]
  ) else (
  some (0, S_806)
  )
  )
  ) else (
  some (0, S_806)
  )) one1 := by
  obtain ⟨Ds, pg, pp, r, L, Q, C⟩ := l
  have hC : ClS stT Ds pg pp r L Q C S := hc
  have hR : RfS S stT Ds pg pp r L Q C S := hr
  refine ev_gv ?_
  refine ev_gg ⟨by omega, by omega, by omega⟩ ?_
  refine ev_gv ?_
  refine ev_gv ?_
  refine ev_gg ⟨by omega, by omega, by omega⟩ ?_
  refine ev_gv ?_
  refine ev_gg (by decide) ?_
  obtain ⟨k, x, l2, hk, hx, hcl, hrf⟩ := pr_lay (D := 2036 - 1) (by decide) hC hR (hXS _) (hXS _)
  refine ev_gc hcl (fun y S1 q => ?_)
  obtain ⟨e0, h6, hC2, hx2⟩ := q
  subst e0
  refine ev_gv ?_
  refine ev_gg ⟨by omega, by omega, by omega⟩ ?_
  refine ev_gv ?_
  refine ev_gv ?_
  refine ev_gg ⟨by omega, by omega, by omega⟩ ?_
  refine ev_gv ?_
  exact lw_t1 (fun _ z => z) (rec := fun n S => rec n 2036 2279 S [a4]) hk hx hC2 h6 (hrf S1 (rf_move hR hx2)) (fun S2 a b => hrec l2 S2 a b)
theorem lw_c20 {XL : Nat} {XS : Nat → Int} (hXS : ∀ k, inr (XS k)) {a4 : Int} {l : LT} {S : GS} (h0 : 0 ≤ a4) (h4 : a4 + 4 ≤ (XL : Int)) (hXL : XL ≤ 2048) (hc : CLS l S) (hr : RFS l S S) {rec : Nat → Nat → Nat → GS → List Int → Option (Int × GS)} (hrec : ∀ l2 S2, CLS l2 S2 → RFS l2 S2 S2 → Ev (fun n => rec n 2036 2279 S2 [a4]) one1) : Ev (fun n =>
  gv (a4 + 1) fun x822 =>
  gg (0 ≤ x822 ∧ x822 < ((XL : Nat) : Int) ∧ x822 < 2147483648) <|
  gv (XS (x822 : Int).toNat) fun x825 =>
  gv (a4 + 2) fun x827 =>
  gg (0 ≤ x827 ∧ x827 < ((XL : Nat) : Int) ∧ x827 < 2147483648) <|
  gv (XS (x827 : Int).toNat) fun x830 =>
  gg (1 ≤ 2036) <|
  gc (f_L_patch n (2036 - 1) 0 S [x825, x830]) fun x833 S_834 =>
  gv (a4 + 1) fun x836 =>
  gg (0 ≤ x836 ∧ x836 < ((XL : Nat) : Int) ∧ x836 < 2147483648) <|
  gv (XS (x836 : Int).toNat) fun x839 =>
  gv (a4 + 2) fun x841 =>
  gg (0 ≤ x841 ∧ x841 < ((XL : Nat) : Int) ∧ x841 < 2147483648) <|
  gv (XS (x841 : Int).toNat) fun x844 =>
  gc (f_X12_patch n (2036 - 1) 0 S_834 [x839, x844]) fun x846 S_847 =>
  gc (f_X12_thrown n (2036 - 1) 0 S_847 []) fun x849 S_850 =>
  gg (inr x849) <|
  gg (inr x833) <|
  if x849 = x833 then (
  if x833 ≠ 0 then (
  rec n 2036 2279 S_850 [a4]
  ) else (
  gv (S_850.1 600 0) fun x856 =>
  gg (inr x846) <|
  gg (inl x856) <|
  gg (inl x846) <|
  gv (lsg x856 x846) fun x861 =>
  gg (inr x861) <|
  if x861 = 0 then (
  rec n 2036 2279 S_850 [a4]
  ) else (
  some (0, S_850)
  )
  )
  ) else (
  some (0, S_850)
  )) one1 := by
  obtain ⟨Ds, pg, pp, r, L, Q, C⟩ := l
  have hC : ClS stT Ds pg pp r L Q C S := hc
  have hR : RfS S stT Ds pg pp r L Q C S := hr
  refine ev_gv ?_
  refine ev_gg ⟨by omega, by omega, by omega⟩ ?_
  refine ev_gv ?_
  refine ev_gv ?_
  refine ev_gg ⟨by omega, by omega, by omega⟩ ?_
  refine ev_gv ?_
  refine ev_gg (by decide) ?_
  obtain ⟨k, x, l2, hk, hx, hcl, hrf⟩ := pr_patch (D := 2036 - 1) (by decide) hC hR (hXS _) (hXS _)
  refine ev_gc hcl (fun y S1 q => ?_)
  obtain ⟨e0, h6, hC2, hx2⟩ := q
  subst e0
  refine ev_gv ?_
  refine ev_gg ⟨by omega, by omega, by omega⟩ ?_
  refine ev_gv ?_
  refine ev_gv ?_
  refine ev_gg ⟨by omega, by omega, by omega⟩ ?_
  refine ev_gv ?_
  exact lw_t1 (fun _ z => z) (rec := fun n S => rec n 2036 2279 S [a4]) hk hx hC2 h6 (hrf S1 (rf_move hR hx2)) (fun S2 a b => hrec l2 S2 a b)
theorem lw_c21 {XL : Nat} {XS : Nat → Int} (hXS : ∀ k, inr (XS k)) {a4 : Int} {l : LT} {S : GS} (h0 : 0 ≤ a4) (h4 : a4 + 4 ≤ (XL : Int)) (hXL : XL ≤ 2048) (hc : CLS l S) (hr : RFS l S S) {rec : Nat → Nat → Nat → GS → List Int → Option (Int × GS)} (hrec : ∀ l2 S2, CLS l2 S2 → RFS l2 S2 S2 → Ev (fun n => rec n 2036 2279 S2 [a4]) one1) : Ev (fun n =>
  gv (a4 + 1) fun x866 =>
  gg (0 ≤ x866 ∧ x866 < ((XL : Nat) : Int) ∧ x866 < 2147483648) <|
  gv (XS (x866 : Int).toNat) fun x869 =>
  gv (a4 + 2) fun x871 =>
  gg (0 ≤ x871 ∧ x871 < ((XL : Nat) : Int) ∧ x871 < 2147483648) <|
  gv (XS (x871 : Int).toNat) fun x874 =>
  gg (1 ≤ 2036) <|
  gc (f_L_turn n (2036 - 1) 0 S [x869, x874]) fun x877 S_878 =>
  gv (a4 + 1) fun x880 =>
  gg (0 ≤ x880 ∧ x880 < ((XL : Nat) : Int) ∧ x880 < 2147483648) <|
  gv (XS (x880 : Int).toNat) fun x883 =>
  gv (a4 + 2) fun x885 =>
  gg (0 ≤ x885 ∧ x885 < ((XL : Nat) : Int) ∧ x885 < 2147483648) <|
  gv (XS (x885 : Int).toNat) fun x888 =>
  gc (f_X12_turn n (2036 - 1) 0 S_878 [x883, x888]) fun x890 S_891 =>
  gc (f_X12_thrown n (2036 - 1) 0 S_891 []) fun x893 S_894 =>
  gg (inr x893) <|
  gg (inr x877) <|
  if x893 = x877 then (
  if x877 ≠ 0 then (
  rec n 2036 2279 S_894 [a4]
  ) else (
  gv (S_894.1 600 0) fun x900 =>
  gg (inr x890) <|
  gg (inl x900) <|
  gg (inl x890) <|
  gv (lsg x900 x890) fun x905 =>
  gg (inr x905) <|
  if x905 = 0 then (
  rec n 2036 2279 S_894 [a4]
  ) else (
  some (0, S_894)
  )
  )
  ) else (
  some (0, S_894)
  )) one1 := by
  obtain ⟨Ds, pg, pp, r, L, Q, C⟩ := l
  have hC : ClS stT Ds pg pp r L Q C S := hc
  have hR : RfS S stT Ds pg pp r L Q C S := hr
  refine ev_gv ?_
  refine ev_gg ⟨by omega, by omega, by omega⟩ ?_
  refine ev_gv ?_
  refine ev_gv ?_
  refine ev_gg ⟨by omega, by omega, by omega⟩ ?_
  refine ev_gv ?_
  refine ev_gg (by decide) ?_
  obtain ⟨k, x, l2, hk, hx, hcl, hrf⟩ := pr_turn (D := 2036 - 1) (by decide) hC hR (hXS _) (hXS _)
  refine ev_gc hcl (fun y S1 q => ?_)
  obtain ⟨e0, h6, hC2, hx2⟩ := q
  subst e0
  refine ev_gv ?_
  refine ev_gg ⟨by omega, by omega, by omega⟩ ?_
  refine ev_gv ?_
  refine ev_gv ?_
  refine ev_gg ⟨by omega, by omega, by omega⟩ ?_
  refine ev_gv ?_
  exact lw_t1 (fun _ z => z) (rec := fun n S => rec n 2036 2279 S [a4]) hk hx hC2 h6 (hrf S1 (rf_move hR hx2)) (fun S2 a b => hrec l2 S2 a b)
theorem lw_c22 {XL : Nat} {XS : Nat → Int} (hXS : ∀ k, inr (XS k)) {a4 : Int} {l : LT} {S : GS} (h0 : 0 ≤ a4) (h4 : a4 + 4 ≤ (XL : Int)) (hXL : XL ≤ 2048) (hc : CLS l S) (hr : RFS l S S) {rec : Nat → Nat → Nat → GS → List Int → Option (Int × GS)} (hrec : ∀ l2 S2, CLS l2 S2 → RFS l2 S2 S2 → Ev (fun n => rec n 2036 2279 S2 [a4]) one1) : Ev (fun n =>
  gv (a4 + 1) fun x910 =>
  gg (0 ≤ x910 ∧ x910 < ((XL : Nat) : Int) ∧ x910 < 2147483648) <|
  gv (XS (x910 : Int).toNat) fun x913 =>
  gv (a4 + 2) fun x915 =>
  gg (0 ≤ x915 ∧ x915 < ((XL : Nat) : Int) ∧ x915 < 2147483648) <|
  gv (XS (x915 : Int).toNat) fun x918 =>
  gv (a4 + 3) fun x920 =>
  gg (0 ≤ x920 ∧ x920 < ((XL : Nat) : Int) ∧ x920 < 2147483648) <|
  gv (XS (x920 : Int).toNat) fun x923 =>
  gg (1 ≤ 2036) <|
  gc (f_L_join n (2036 - 1) 0 S [x913, x918, x923]) fun x926 S_927 =>
  gv (a4 + 1) fun x929 =>
  gg (0 ≤ x929 ∧ x929 < ((XL : Nat) : Int) ∧ x929 < 2147483648) <|
  gv (XS (x929 : Int).toNat) fun x932 =>
  gv (a4 + 2) fun x934 =>
  gg (0 ≤ x934 ∧ x934 < ((XL : Nat) : Int) ∧ x934 < 2147483648) <|
  gv (XS (x934 : Int).toNat) fun x937 =>
  gv (a4 + 3) fun x939 =>
  gg (0 ≤ x939 ∧ x939 < ((XL : Nat) : Int) ∧ x939 < 2147483648) <|
  gv (XS (x939 : Int).toNat) fun x942 =>
  gc (f_X12_join n (2036 - 1) 0 S_927 [x932, x937, x942]) fun x944 S_945 =>
  gc (f_X12_thrown n (2036 - 1) 0 S_945 []) fun x947 S_948 =>
  gg (inr x947) <|
  gg (inr x926) <|
  if x947 = x926 then (
  if x926 ≠ 0 then (
  rec n 2036 2279 S_948 [a4]
  ) else (
  gv (S_948.1 600 0) fun x954 =>
  gg (inr x944) <|
  gg (inl x954) <|
  gg (inl x944) <|
  gv (lsg x954 x944) fun x959 =>
  gg (inr x959) <|
  if x959 = 0 then (
  rec n 2036 2279 S_948 [a4]
  ) else (
  some (0, S_948)
  )
  )
  ) else (
  some (0, S_948)
  )) one1 := by
  obtain ⟨Ds, pg, pp, r, L, Q, C⟩ := l
  have hC : ClS stT Ds pg pp r L Q C S := hc
  have hR : RfS S stT Ds pg pp r L Q C S := hr
  refine ev_gv ?_
  refine ev_gg ⟨by omega, by omega, by omega⟩ ?_
  refine ev_gv ?_
  refine ev_gv ?_
  refine ev_gg ⟨by omega, by omega, by omega⟩ ?_
  refine ev_gv ?_
  refine ev_gv ?_
  refine ev_gg ⟨by omega, by omega, by omega⟩ ?_
  refine ev_gv ?_
  refine ev_gg (by decide) ?_
  obtain ⟨k, x, l2, hk, hx, hcl, hrf⟩ := pr_join (D := 2036 - 1) (by decide) hC hR (hXS _) (hXS _) (hXS _)
  refine ev_gc hcl (fun y S1 q => ?_)
  obtain ⟨e0, h6, hC2, hx2⟩ := q
  subst e0
  refine ev_gv ?_
  refine ev_gg ⟨by omega, by omega, by omega⟩ ?_
  refine ev_gv ?_
  refine ev_gv ?_
  refine ev_gg ⟨by omega, by omega, by omega⟩ ?_
  refine ev_gv ?_
  refine ev_gv ?_
  refine ev_gg ⟨by omega, by omega, by omega⟩ ?_
  refine ev_gv ?_
  exact lw_t1 (fun _ z => z) (rec := fun n S => rec n 2036 2279 S [a4]) hk hx hC2 h6 (hrf S1 (rf_move hR hx2)) (fun S2 a b => hrec l2 S2 a b)
theorem lw_c23 {XL : Nat} {XS : Nat → Int} (hXS : ∀ k, inr (XS k)) {a4 : Int} {l : LT} {S : GS} (h0 : 0 ≤ a4) (h4 : a4 + 4 ≤ (XL : Int)) (hXL : XL ≤ 2048) (hc : CLS l S) (hr : RFS l S S) {rec : Nat → Nat → Nat → GS → List Int → Option (Int × GS)} (hrec : ∀ l2 S2, CLS l2 S2 → RFS l2 S2 S2 → Ev (fun n => rec n 2036 2279 S2 [a4]) one1) : Ev (fun n =>
  gg (1 ≤ 2036) <|
  gc (f_X11_quarrels n (2036 - 1) 0 S []) fun x965 S_966 =>
  gc (f_X12_quarrels n (2036 - 1) 0 S_966 []) fun x968 S_969 =>
  gg (inr x965) <|
  gg (inr x968) <|
  if x965 = x968 then (
  rec n 2036 2279 S_969 [a4]
  ) else (
  some (0, S_969)
  )) one1 := by
  obtain ⟨Ds, pg, pp, r, L, Q, C⟩ := l
  have hC : ClS stT Ds pg pp r L Q C S := hc
  have hR : RfS S stT Ds pg pp r L Q C S := hr
  refine ev_gg (by decide) ?_
  refine ev_gcr (t_quarrels (d := 2036 - 1) (by decide) hC) ?_
  refine ev_gc (r_quarrels (d := 2036 - 1) hR) (fun b S2 q => ?_)
  obtain ⟨hb, _, hR2⟩ := q
  have ln : Q.length ≤ 200 := hC.2.2.2.2.2.1.2.2.2.1
  rw [hb]
  refine ev_gg (by first | omega | (constructor <;> omega)) ?_
  refine ev_gg (by first | omega | (constructor <;> omega)) ?_
  exact ev_ite (fun _ => hrec (Ds, pg, pp, r, L, Q, C) S2 (cls_ref (l := (Ds, pg, pp, r, L, Q, C)) (l2 := (Ds, pg, pp, r, L, Q, C)) hC hR2) (rf_base (l := (Ds, pg, pp, r, L, Q, C)) hR2)) (fun z => absurd rfl z)
theorem lw_c24 {XL : Nat} {XS : Nat → Int} (hXS : ∀ k, inr (XS k)) {a4 : Int} {l : LT} {S : GS} (h0 : 0 ≤ a4) (h4 : a4 + 4 ≤ (XL : Int)) (hXL : XL ≤ 2048) (hc : CLS l S) (hr : RFS l S S) {rec : Nat → Nat → Nat → GS → List Int → Option (Int × GS)} (hrec : ∀ l2 S2, CLS l2 S2 → RFS l2 S2 S2 → Ev (fun n => rec n 2036 2279 S2 [a4]) one1) : Ev (fun n =>
  gv (a4 + 1) fun x975 =>
  gg (0 ≤ x975 ∧ x975 < ((XL : Nat) : Int) ∧ x975 < 2147483648) <|
  gv (XS (x975 : Int).toNat) fun x978 =>
  gg (1 ≤ 2036) <|
  gc (f_L_quarrel n (2036 - 1) 0 S [x978]) fun x981 S_982 =>
  gv (a4 + 1) fun x984 =>
  gg (0 ≤ x984 ∧ x984 < ((XL : Nat) : Int) ∧ x984 < 2147483648) <|
  gv (XS (x984 : Int).toNat) fun x987 =>
  gc (f_X12_quarrel n (2036 - 1) 0 S_982 [x987]) fun x989 S_990 =>
  gc (f_X12_thrown n (2036 - 1) 0 S_990 []) fun x992 S_993 =>
  gg (inr x992) <|
  gg (inr x981) <|
  if x992 = x981 then (
  if x981 ≠ 0 then (
  rec n 2036 2279 S_993 [a4]
  ) else (
  gv (S_993.1 600 0) fun x999 =>
  gg (inr x989) <|
  gg (inl x999) <|
  gg (inl x989) <|
  gv (lsg x999 x989) fun x1004 =>
  gg (inr x1004) <|
  if x1004 = 0 then (
  rec n 2036 2279 S_993 [a4]
  ) else (
  some (0, S_993)
  )
  )
  ) else (
  some (0, S_993)
  )) one1 := by
  obtain ⟨Ds, pg, pp, r, L, Q, C⟩ := l
  have hC : ClS stT Ds pg pp r L Q C S := hc
  have hR : RfS S stT Ds pg pp r L Q C S := hr
  refine ev_gv ?_
  refine ev_gg ⟨by omega, by omega, by omega⟩ ?_
  refine ev_gv ?_
  refine ev_gg (by decide) ?_
  obtain ⟨k, x, l2, hk, hx, hcl, hrf⟩ := pr_quarrel (D := 2036 - 1) (by decide) hC hR (hXS _)
  refine ev_gc hcl (fun y S1 q => ?_)
  obtain ⟨e0, h6, hC2, hx2⟩ := q
  subst e0
  refine ev_gv ?_
  refine ev_gg ⟨by omega, by omega, by omega⟩ ?_
  refine ev_gv ?_
  exact lw_t1 (fun _ z => z) (rec := fun n S => rec n 2036 2279 S [a4]) hk hx hC2 h6 (hrf S1 (rf_move hR hx2)) (fun S2 a b => hrec l2 S2 a b)
theorem lw_c25 {XL : Nat} {XS : Nat → Int} (hXS : ∀ k, inr (XS k)) {a4 : Int} {l : LT} {S : GS} (h0 : 0 ≤ a4) (h4 : a4 + 4 ≤ (XL : Int)) (hXL : XL ≤ 2048) (hc : CLS l S) (hr : RFS l S S) {rec : Nat → Nat → Nat → GS → List Int → Option (Int × GS)} (hrec : ∀ l2 S2, CLS l2 S2 → RFS l2 S2 S2 → Ev (fun n => rec n 2036 2279 S2 [a4]) one1) : Ev (fun n =>
  gg (1 ≤ 2036) <|
  gc (f_L_standard n (2036 - 1) 0 S []) fun x1010 S_1011 =>
  gc (f_X12_standard n (2036 - 1) 0 S_1011 []) fun x1013 S_1014 =>
  gc (f_X12_thrown n (2036 - 1) 0 S_1014 []) fun x1016 S_1017 =>
  gg (inr x1016) <|
  gg (inr x1010) <|
  if x1016 = x1010 then (
  if x1010 ≠ 0 then (
  rec n 2036 2279 S_1017 [a4]
  ) else (
  gv (S_1017.1 600 0) fun x1023 =>
  gg (inr x1013) <|
  gg (inl x1023) <|
  gg (inl x1013) <|
  gv (lsg x1023 x1013) fun x1028 =>
  gg (inr x1028) <|
  if x1028 = 0 then (
  rec n 2036 2279 S_1017 [a4]
  ) else (
  some (0, S_1017)
  )
  )
  ) else (
  some (0, S_1017)
  )) one1 := by
  obtain ⟨Ds, pg, pp, r, L, Q, C⟩ := l
  have hC : ClS stT Ds pg pp r L Q C S := hc
  have hR : RfS S stT Ds pg pp r L Q C S := hr
  refine ev_gg (by decide) ?_
  obtain ⟨k, x, l2, hk, hx, hcl, hrf⟩ := pr_standard (D := 2036 - 1) (by decide) hC hR 
  refine ev_gc hcl (fun y S1 q => ?_)
  obtain ⟨e0, h6, hC2, hx2⟩ := q
  subst e0
  exact lw_t1 (fun _ z => z) (rec := fun n S => rec n 2036 2279 S [a4]) hk hx hC2 h6 (hrf S1 (rf_move hR hx2)) (fun S2 a b => hrec l2 S2 a b)
theorem lw_c26 {XL : Nat} {XS : Nat → Int} (hXS : ∀ k, inr (XS k)) {a4 : Int} {l : LT} {S : GS} (h0 : 0 ≤ a4) (h4 : a4 + 4 ≤ (XL : Int)) (hXL : XL ≤ 2048) (hc : CLS l S) (hr : RFS l S S) {rec : Nat → Nat → Nat → GS → List Int → Option (Int × GS)} (hrec : ∀ l2 S2, CLS l2 S2 → RFS l2 S2 S2 → Ev (fun n => rec n 2036 2279 S2 [a4]) one1) : Ev (fun n =>
  gv (a4 + 1) fun x1033 =>
  gg (0 ≤ x1033 ∧ x1033 < ((XL : Nat) : Int) ∧ x1033 < 2147483648) <|
  gv (XS (x1033 : Int).toNat) fun x1036 =>
  gv (a4 + 2) fun x1038 =>
  gg (0 ≤ x1038 ∧ x1038 < ((XL : Nat) : Int) ∧ x1038 < 2147483648) <|
  gv (XS (x1038 : Int).toNat) fun x1041 =>
  gg (1 ≤ 2036) <|
  gc (f_L_check n (2036 - 1) 0 S [x1036, x1041]) fun x1044 S_1045 =>
  gv (a4 + 1) fun x1047 =>
  gg (0 ≤ x1047 ∧ x1047 < ((XL : Nat) : Int) ∧ x1047 < 2147483648) <|
  gv (XS (x1047 : Int).toNat) fun x1050 =>
  gv (a4 + 2) fun x1052 =>
  gg (0 ≤ x1052 ∧ x1052 < ((XL : Nat) : Int) ∧ x1052 < 2147483648) <|
  gv (XS (x1052 : Int).toNat) fun x1055 =>
  gc (f_X12_check n (2036 - 1) 0 S_1045 [x1050, x1055]) fun x1057 S_1058 =>
  gc (f_X12_thrown n (2036 - 1) 0 S_1058 []) fun x1060 S_1061 =>
  gg (inr x1060) <|
  gg (inr x1044) <|
  if x1060 = x1044 then (
  if x1044 ≠ 0 then (
  rec n 2036 2279 S_1061 [a4]
  ) else (
  gv (S_1061.1 600 0) fun x1067 =>
  gg (inr x1057) <|
  gg (inl x1067) <|
  gg (inl x1057) <|
  gv (lsg x1067 x1057) fun x1072 =>
  gg (inr x1072) <|
  if x1072 = 0 then (
  rec n 2036 2279 S_1061 [a4]
  ) else (
  some (0, S_1061)
  )
  )
  ) else (
  some (0, S_1061)
  )) one1 := by
  obtain ⟨Ds, pg, pp, r, L, Q, C⟩ := l
  have hC : ClS stT Ds pg pp r L Q C S := hc
  have hR : RfS S stT Ds pg pp r L Q C S := hr
  refine ev_gv ?_
  refine ev_gg ⟨by omega, by omega, by omega⟩ ?_
  refine ev_gv ?_
  refine ev_gv ?_
  refine ev_gg ⟨by omega, by omega, by omega⟩ ?_
  refine ev_gv ?_
  refine ev_gg (by decide) ?_
  obtain ⟨k, x, l2, hk, hx, hcl, hrf⟩ := pr_check (D := 2036 - 1) (by decide) hC hR (hXS _) (hXS _)
  refine ev_gc hcl (fun y S1 q => ?_)
  obtain ⟨e0, h6, hC2, hx2⟩ := q
  subst e0
  refine ev_gv ?_
  refine ev_gg ⟨by omega, by omega, by omega⟩ ?_
  refine ev_gv ?_
  refine ev_gv ?_
  refine ev_gg ⟨by omega, by omega, by omega⟩ ?_
  refine ev_gv ?_
  exact lw_t1 (fun _ z => z) (rec := fun n S => rec n 2036 2279 S [a4]) hk hx hC2 h6 (hrf S1 (rf_move hR hx2)) (fun S2 a b => hrec l2 S2 a b)
theorem lw_c27 {XL : Nat} {XS : Nat → Int} (hXS : ∀ k, inr (XS k)) {a4 : Int} {l : LT} {S : GS} (h0 : 0 ≤ a4) (h4 : a4 + 4 ≤ (XL : Int)) (hXL : XL ≤ 2048) (hc : CLS l S) (hr : RFS l S S) {rec : Nat → Nat → Nat → GS → List Int → Option (Int × GS)} (hrec : ∀ l2 S2, CLS l2 S2 → RFS l2 S2 S2 → Ev (fun n => rec n 2036 2279 S2 [a4]) one1) : Ev (fun n =>
  gv (a4 + 1) fun x1077 =>
  gg (0 ≤ x1077 ∧ x1077 < ((XL : Nat) : Int) ∧ x1077 < 2147483648) <|
  gv (XS (x1077 : Int).toNat) fun x1080 =>
  gv (a4 + 2) fun x1082 =>
  gg (0 ≤ x1082 ∧ x1082 < ((XL : Nat) : Int) ∧ x1082 < 2147483648) <|
  gv (XS (x1082 : Int).toNat) fun x1085 =>
  gg (1 ≤ 2036) <|
  gc (f_L_complaint n (2036 - 1) 0 S [x1080, x1085]) fun x1088 S_1089 =>
  gv (a4 + 1) fun x1091 =>
  gg (0 ≤ x1091 ∧ x1091 < ((XL : Nat) : Int) ∧ x1091 < 2147483648) <|
  gv (XS (x1091 : Int).toNat) fun x1094 =>
  gv (a4 + 2) fun x1096 =>
  gg (0 ≤ x1096 ∧ x1096 < ((XL : Nat) : Int) ∧ x1096 < 2147483648) <|
  gv (XS (x1096 : Int).toNat) fun x1099 =>
  gc (f_X12_complaint n (2036 - 1) 0 S_1089 [x1094, x1099]) fun x1101 S_1102 =>
  gc (f_X12_thrown n (2036 - 1) 0 S_1102 []) fun x1104 S_1105 =>
  gg (inr x1104) <|
  gg (inr x1088) <|
  if x1104 = x1088 then (
  if x1088 ≠ 0 then (
  rec n 2036 2279 S_1105 [a4]
  ) else (
  gv (S_1105.1 600 0) fun x1111 =>
  gg (inr x1101) <|
  gg (inl x1111) <|
  gg (inl x1101) <|
  gv (lsg x1111 x1101) fun x1116 =>
  gg (inr x1116) <|
  if x1116 = 0 then (
  rec n 2036 2279 S_1105 [a4]
  ) else (
  some (0, S_1105)
  )
  )
  ) else (
  some (0, S_1105)
  )) one1 := by
  obtain ⟨Ds, pg, pp, r, L, Q, C⟩ := l
  have hC : ClS stT Ds pg pp r L Q C S := hc
  have hR : RfS S stT Ds pg pp r L Q C S := hr
  refine ev_gv ?_
  refine ev_gg ⟨by omega, by omega, by omega⟩ ?_
  refine ev_gv ?_
  refine ev_gv ?_
  refine ev_gg ⟨by omega, by omega, by omega⟩ ?_
  refine ev_gv ?_
  refine ev_gg (by decide) ?_
  obtain ⟨k, x, l2, hk, hx, hcl, hrf⟩ := pr_complaint (D := 2036 - 1) (by decide) hC hR (hXS _) (hXS _)
  refine ev_gc hcl (fun y S1 q => ?_)
  obtain ⟨e0, h6, hC2, hx2⟩ := q
  subst e0
  refine ev_gv ?_
  refine ev_gg ⟨by omega, by omega, by omega⟩ ?_
  refine ev_gv ?_
  refine ev_gv ?_
  refine ev_gg ⟨by omega, by omega, by omega⟩ ?_
  refine ev_gv ?_
  exact lw_t1 (fun _ z => z) (rec := fun n S => rec n 2036 2279 S [a4]) hk hx hC2 h6 (hrf S1 (rf_move hR hx2)) (fun S2 a b => hrec l2 S2 a b)
theorem lw_c28 {XL : Nat} {XS : Nat → Int} (hXS : ∀ k, inr (XS k)) {a4 : Int} {l : LT} {S : GS} (h0 : 0 ≤ a4) (h4 : a4 + 4 ≤ (XL : Int)) (hXL : XL ≤ 2048) (hc : CLS l S) (hr : RFS l S S) {rec : Nat → Nat → Nat → GS → List Int → Option (Int × GS)} (hrec : ∀ l2 S2, CLS l2 S2 → RFS l2 S2 S2 → Ev (fun n => rec n 2036 2279 S2 [a4]) one1) : Ev (fun n =>
  gv (a4 + 1) fun x1121 =>
  gg (0 ≤ x1121 ∧ x1121 < ((XL : Nat) : Int) ∧ x1121 < 2147483648) <|
  gv (XS (x1121 : Int).toNat) fun x1124 =>
  gg (1 ≤ 2036) <|
  gc (f_L_columns n (2036 - 1) 0 S [x1124]) fun x1127 S_1128 =>
  gv (a4 + 1) fun x1130 =>
  gg (0 ≤ x1130 ∧ x1130 < ((XL : Nat) : Int) ∧ x1130 < 2147483648) <|
  gv (XS (x1130 : Int).toNat) fun x1133 =>
  gc (f_X12_columns n (2036 - 1) 0 S_1128 [x1133]) fun x1135 S_1136 =>
  gc (f_X12_thrown n (2036 - 1) 0 S_1136 []) fun x1138 S_1139 =>
  gg (inr x1138) <|
  gg (inr x1127) <|
  if x1138 = x1127 then (
  if x1127 ≠ 0 then (
  rec n 2036 2279 S_1139 [a4]
  ) else (
  gv (S_1139.1 600 0) fun x1145 =>
  gg (inr x1135) <|
  gg (inl x1145) <|
  gg (inl x1135) <|
  gv (lsg x1145 x1135) fun x1150 =>
  gg (inr x1150) <|
  if x1150 = 0 then (
  rec n 2036 2279 S_1139 [a4]
  ) else (
  some (0, S_1139)
  )
  )
  ) else (
  some (0, S_1139)
  )) one1 := by
  obtain ⟨Ds, pg, pp, r, L, Q, C⟩ := l
  have hC : ClS stT Ds pg pp r L Q C S := hc
  have hR : RfS S stT Ds pg pp r L Q C S := hr
  refine ev_gv ?_
  refine ev_gg ⟨by omega, by omega, by omega⟩ ?_
  refine ev_gv ?_
  refine ev_gg (by decide) ?_
  obtain ⟨k, x, l2, hk, hx, hcl, hrf⟩ := pr_columns (D := 2036 - 1) (by decide) hC hR (hXS _)
  refine ev_gc hcl (fun y S1 q => ?_)
  obtain ⟨e0, h6, hC2, hx2⟩ := q
  subst e0
  refine ev_gv ?_
  refine ev_gg ⟨by omega, by omega, by omega⟩ ?_
  refine ev_gv ?_
  exact lw_t1 (fun _ z => z) (rec := fun n S => rec n 2036 2279 S [a4]) hk hx hC2 h6 (hrf S1 (rf_move hR hx2)) (fun S2 a b => hrec l2 S2 a b)
theorem lw_c29 {XL : Nat} {XS : Nat → Int} (hXS : ∀ k, inr (XS k)) {a4 : Int} {l : LT} {S : GS} (h0 : 0 ≤ a4) (h4 : a4 + 4 ≤ (XL : Int)) (hXL : XL ≤ 2048) (hc : CLS l S) (hr : RFS l S S) {rec : Nat → Nat → Nat → GS → List Int → Option (Int × GS)} (hrec : ∀ l2 S2, CLS l2 S2 → RFS l2 S2 S2 → Ev (fun n => rec n 2036 2279 S2 [a4]) one1) : Ev (fun n =>
  gv (a4 + 1) fun x1155 =>
  gg (0 ≤ x1155 ∧ x1155 < ((XL : Nat) : Int) ∧ x1155 < 2147483648) <|
  gv (XS (x1155 : Int).toNat) fun x1158 =>
  gg (1 ≤ 2036) <|
  gc (f_L_rows n (2036 - 1) 0 S [x1158]) fun x1161 S_1162 =>
  gv (a4 + 1) fun x1164 =>
  gg (0 ≤ x1164 ∧ x1164 < ((XL : Nat) : Int) ∧ x1164 < 2147483648) <|
  gv (XS (x1164 : Int).toNat) fun x1167 =>
  gc (f_X12_rows n (2036 - 1) 0 S_1162 [x1167]) fun x1169 S_1170 =>
  gc (f_X12_thrown n (2036 - 1) 0 S_1170 []) fun x1172 S_1173 =>
  gg (inr x1172) <|
  gg (inr x1161) <|
  if x1172 = x1161 then (
  if x1161 ≠ 0 then (
  rec n 2036 2279 S_1173 [a4]
  ) else (
  gv (S_1173.1 600 0) fun x1179 =>
  gg (inr x1169) <|
  gg (inl x1179) <|
  gg (inl x1169) <|
  gv (lsg x1179 x1169) fun x1184 =>
  gg (inr x1184) <|
  if x1184 = 0 then (
  rec n 2036 2279 S_1173 [a4]
  ) else (
  some (0, S_1173)
  )
  )
  ) else (
  some (0, S_1173)
  )) one1 := by
  obtain ⟨Ds, pg, pp, r, L, Q, C⟩ := l
  have hC : ClS stT Ds pg pp r L Q C S := hc
  have hR : RfS S stT Ds pg pp r L Q C S := hr
  refine ev_gv ?_
  refine ev_gg ⟨by omega, by omega, by omega⟩ ?_
  refine ev_gv ?_
  refine ev_gg (by decide) ?_
  obtain ⟨k, x, l2, hk, hx, hcl, hrf⟩ := pr_rows (D := 2036 - 1) (by decide) hC hR (hXS _)
  refine ev_gc hcl (fun y S1 q => ?_)
  obtain ⟨e0, h6, hC2, hx2⟩ := q
  subst e0
  refine ev_gv ?_
  refine ev_gg ⟨by omega, by omega, by omega⟩ ?_
  refine ev_gv ?_
  exact lw_t1 (fun _ z => z) (rec := fun n S => rec n 2036 2279 S [a4]) hk hx hC2 h6 (hrf S1 (rf_move hR hx2)) (fun S2 a b => hrec l2 S2 a b)
theorem lw_c30 {XL : Nat} {XS : Nat → Int} (hXS : ∀ k, inr (XS k)) {a4 : Int} {l : LT} {S : GS} (h0 : 0 ≤ a4) (h4 : a4 + 4 ≤ (XL : Int)) (hXL : XL ≤ 2048) (hc : CLS l S) (hr : RFS l S S) {rec : Nat → Nat → Nat → GS → List Int → Option (Int × GS)} (hrec : ∀ l2 S2, CLS l2 S2 → RFS l2 S2 S2 → Ev (fun n => rec n 2036 2279 S2 [a4]) one1) : Ev (fun n =>
  gv (a4 + 1) fun x1189 =>
  gg (0 ≤ x1189 ∧ x1189 < ((XL : Nat) : Int) ∧ x1189 < 2147483648) <|
  gv (XS (x1189 : Int).toNat) fun x1192 =>
  gv (a4 + 2) fun x1194 =>
  gg (0 ≤ x1194 ∧ x1194 < ((XL : Nat) : Int) ∧ x1194 < 2147483648) <|
  gv (XS (x1194 : Int).toNat) fun x1197 =>
  gg (1 ≤ 2036) <|
  gc (f_L_grow n (2036 - 1) 0 S [x1192, x1197]) fun x1200 S_1201 =>
  gv (a4 + 1) fun x1203 =>
  gg (0 ≤ x1203 ∧ x1203 < ((XL : Nat) : Int) ∧ x1203 < 2147483648) <|
  gv (XS (x1203 : Int).toNat) fun x1206 =>
  gv (a4 + 2) fun x1208 =>
  gg (0 ≤ x1208 ∧ x1208 < ((XL : Nat) : Int) ∧ x1208 < 2147483648) <|
  gv (XS (x1208 : Int).toNat) fun x1211 =>
  gc (f_X12_grow n (2036 - 1) 0 S_1201 [x1206, x1211]) fun x1213 S_1214 =>
  gc (f_X12_thrown n (2036 - 1) 0 S_1214 []) fun x1216 S_1217 =>
  gg (inr x1216) <|
  gg (inr x1200) <|
  if x1216 = x1200 then (
  if x1200 ≠ 0 then (
  rec n 2036 2279 S_1217 [a4]
  ) else (
  gv (S_1217.1 600 0) fun x1223 =>
  gg (inr x1213) <|
  gg (inl x1223) <|
  gg (inl x1213) <|
  gv (lsg x1223 x1213) fun x1228 =>
  gg (inr x1228) <|
  if x1228 = 0 then (
  rec n 2036 2279 S_1217 [a4]
  ) else (
  some (0, S_1217)
  )
  )
  ) else (
  some (0, S_1217)
  )) one1 := by
  obtain ⟨Ds, pg, pp, r, L, Q, C⟩ := l
  have hC : ClS stT Ds pg pp r L Q C S := hc
  have hR : RfS S stT Ds pg pp r L Q C S := hr
  refine ev_gv ?_
  refine ev_gg ⟨by omega, by omega, by omega⟩ ?_
  refine ev_gv ?_
  refine ev_gv ?_
  refine ev_gg ⟨by omega, by omega, by omega⟩ ?_
  refine ev_gv ?_
  refine ev_gg (by decide) ?_
  obtain ⟨k, x, l2, hk, hx, hcl, hrf⟩ := pr_grow (D := 2036 - 1) (by decide) hC hR (hXS _) (hXS _)
  refine ev_gc hcl (fun y S1 q => ?_)
  obtain ⟨e0, h6, hC2, hx2⟩ := q
  subst e0
  refine ev_gv ?_
  refine ev_gg ⟨by omega, by omega, by omega⟩ ?_
  refine ev_gv ?_
  refine ev_gv ?_
  refine ev_gg ⟨by omega, by omega, by omega⟩ ?_
  refine ev_gv ?_
  exact lw_t1 (fun _ z => z) (rec := fun n S => rec n 2036 2279 S [a4]) hk hx hC2 h6 (hrf S1 (rf_move hR hx2)) (fun S2 a b => hrec l2 S2 a b)
theorem lw_c31 {XL : Nat} {XS : Nat → Int} (hXS : ∀ k, inr (XS k)) {a4 : Int} {l : LT} {S : GS} (h0 : 0 ≤ a4) (h4 : a4 + 4 ≤ (XL : Int)) (hXL : XL ≤ 2048) (hc : CLS l S) (hr : RFS l S S) {rec : Nat → Nat → Nat → GS → List Int → Option (Int × GS)} (hrec : ∀ l2 S2, CLS l2 S2 → RFS l2 S2 S2 → Ev (fun n => rec n 2036 2279 S2 [a4]) one1) : Ev (fun n =>
  gv (a4 + 1) fun x1233 =>
  gg (0 ≤ x1233 ∧ x1233 < ((XL : Nat) : Int) ∧ x1233 < 2147483648) <|
  gv (XS (x1233 : Int).toNat) fun x1236 =>
  gv (a4 + 2) fun x1238 =>
  gg (0 ≤ x1238 ∧ x1238 < ((XL : Nat) : Int) ∧ x1238 < 2147483648) <|
  gv (XS (x1238 : Int).toNat) fun x1241 =>
  gg (1 ≤ 2036) <|
  gc (f_L_vary n (2036 - 1) 0 S [x1236, x1241]) fun x1244 S_1245 =>
  gv (a4 + 1) fun x1247 =>
  gg (0 ≤ x1247 ∧ x1247 < ((XL : Nat) : Int) ∧ x1247 < 2147483648) <|
  gv (XS (x1247 : Int).toNat) fun x1250 =>
  gv (a4 + 2) fun x1252 =>
  gg (0 ≤ x1252 ∧ x1252 < ((XL : Nat) : Int) ∧ x1252 < 2147483648) <|
  gv (XS (x1252 : Int).toNat) fun x1255 =>
  gc (f_X12_vary n (2036 - 1) 0 S_1245 [x1250, x1255]) fun x1257 S_1258 =>
  gc (f_X12_thrown n (2036 - 1) 0 S_1258 []) fun x1260 S_1261 =>
  gg (inr x1260) <|
  gg (inr x1244) <|
  if x1260 = x1244 then (
  if x1244 ≠ 0 then (
  rec n 2036 2279 S_1261 [a4]
  ) else (
  gv (S_1261.1 600 0) fun x1267 =>
  gg (inr x1257) <|
  gg (inl x1267) <|
  gg (inl x1257) <|
  gv (lsg x1267 x1257) fun x1272 =>
  gg (inr x1272) <|
  if x1272 = 0 then (
  rec n 2036 2279 S_1261 [a4]
  ) else (
  some (0, S_1261)
  )
  )
  ) else (
  some (0, S_1261)
  )) one1 := by
  obtain ⟨Ds, pg, pp, r, L, Q, C⟩ := l
  have hC : ClS stT Ds pg pp r L Q C S := hc
  have hR : RfS S stT Ds pg pp r L Q C S := hr
  refine ev_gv ?_
  refine ev_gg ⟨by omega, by omega, by omega⟩ ?_
  refine ev_gv ?_
  refine ev_gv ?_
  refine ev_gg ⟨by omega, by omega, by omega⟩ ?_
  refine ev_gv ?_
  refine ev_gg (by decide) ?_
  obtain ⟨k, x, l2, hk, hx, hcl, hrf⟩ := pr_vary (D := 2036 - 1) (by decide) hC hR (hXS _) (hXS _)
  refine ev_gc hcl (fun y S1 q => ?_)
  obtain ⟨e0, h6, hC2, hx2⟩ := q
  subst e0
  refine ev_gv ?_
  refine ev_gg ⟨by omega, by omega, by omega⟩ ?_
  refine ev_gv ?_
  refine ev_gv ?_
  refine ev_gg ⟨by omega, by omega, by omega⟩ ?_
  refine ev_gv ?_
  exact lw_t1 (fun _ z => z) (rec := fun n S => rec n 2036 2279 S [a4]) hk hx hC2 h6 (hrf S1 (rf_move hR hx2)) (fun S2 a b => hrec l2 S2 a b)
theorem lw_c32 {XL : Nat} {XS : Nat → Int} (hXS : ∀ k, inr (XS k)) {a4 : Int} {l : LT} {S : GS} (h0 : 0 ≤ a4) (h4 : a4 + 4 ≤ (XL : Int)) (hXL : XL ≤ 2048) (hc : CLS l S) (hr : RFS l S S) {rec : Nat → Nat → Nat → GS → List Int → Option (Int × GS)} (hrec : ∀ l2 S2, CLS l2 S2 → RFS l2 S2 S2 → Ev (fun n => rec n 2036 2279 S2 [a4]) one1) : Ev (fun n =>
  gv (a4 + 1) fun x1277 =>
  gg (0 ≤ x1277 ∧ x1277 < ((XL : Nat) : Int) ∧ x1277 < 2147483648) <|
  gv (XS (x1277 : Int).toNat) fun x1280 =>
  gg (1 ≤ 2036) <|
  gc (f_L_sum n (2036 - 1) 0 S [x1280]) fun x1283 S_1284 =>
  gv (a4 + 1) fun x1286 =>
  gg (0 ≤ x1286 ∧ x1286 < ((XL : Nat) : Int) ∧ x1286 < 2147483648) <|
  gv (XS (x1286 : Int).toNat) fun x1289 =>
  gc (f_X12_sum n (2036 - 1) 0 S_1284 [x1289]) fun x1291 S_1292 =>
  gc (f_X12_thrown n (2036 - 1) 0 S_1292 []) fun x1294 S_1295 =>
  gg (inr x1294) <|
  gg (inr x1283) <|
  if x1294 = x1283 then (
  if x1283 ≠ 0 then (
  rec n 2036 2279 S_1295 [a4]
  ) else (
  gv (S_1295.1 600 0) fun x1301 =>
  gg (inr x1291) <|
  gg (inl x1301) <|
  gg (inl x1291) <|
  gv (lsg x1301 x1291) fun x1306 =>
  gg (inr x1306) <|
  if x1306 = 0 then (
  rec n 2036 2279 S_1295 [a4]
  ) else (
  some (0, S_1295)
  )
  )
  ) else (
  some (0, S_1295)
  )) one1 := by
  obtain ⟨Ds, pg, pp, r, L, Q, C⟩ := l
  have hC : ClS stT Ds pg pp r L Q C S := hc
  have hR : RfS S stT Ds pg pp r L Q C S := hr
  refine ev_gv ?_
  refine ev_gg ⟨by omega, by omega, by omega⟩ ?_
  refine ev_gv ?_
  refine ev_gg (by decide) ?_
  obtain ⟨k, x, l2, hk, hx, hcl, hrf⟩ := pr_sum (D := 2036 - 1) (by decide) hC hR (hXS _)
  refine ev_gc hcl (fun y S1 q => ?_)
  obtain ⟨e0, h6, hC2, hx2⟩ := q
  subst e0
  refine ev_gv ?_
  refine ev_gg ⟨by omega, by omega, by omega⟩ ?_
  refine ev_gv ?_
  exact lw_t1 (fun _ z => z) (rec := fun n S => rec n 2036 2279 S [a4]) hk hx hC2 h6 (hrf S1 (rf_move hR hx2)) (fun S2 a b => hrec l2 S2 a b)
theorem lw_c33 {XL : Nat} {XS : Nat → Int} (hXS : ∀ k, inr (XS k)) {a4 : Int} {l : LT} {S : GS} (h0 : 0 ≤ a4) (h4 : a4 + 4 ≤ (XL : Int)) (hXL : XL ≤ 2048) (hc : CLS l S) (hr : RFS l S S) {rec : Nat → Nat → Nat → GS → List Int → Option (Int × GS)} (hrec : ∀ l2 S2, CLS l2 S2 → RFS l2 S2 S2 → Ev (fun n => rec n 2036 2279 S2 [a4]) one1) : Ev (fun n =>
  gv (a4 + 1) fun x1311 =>
  gg (0 ≤ x1311 ∧ x1311 < ((XL : Nat) : Int) ∧ x1311 < 2147483648) <|
  gv (XS (x1311 : Int).toNat) fun x1314 =>
  gg (1 ≤ 2036) <|
  gc (f_L_isSound n (2036 - 1) 0 S [x1314]) fun x1317 S_1318 =>
  gv (a4 + 1) fun x1320 =>
  gg (0 ≤ x1320 ∧ x1320 < ((XL : Nat) : Int) ∧ x1320 < 2147483648) <|
  gv (XS (x1320 : Int).toNat) fun x1323 =>
  gc (f_X12_isSound n (2036 - 1) 0 S_1318 [x1323]) fun x1325 S_1326 =>
  gc (f_X12_thrown n (2036 - 1) 0 S_1326 []) fun x1328 S_1329 =>
  gg (inr x1328) <|
  gg (inr x1317) <|
  if x1328 = x1317 then (
  if x1317 ≠ 0 then (
  rec n 2036 2279 S_1329 [a4]
  ) else (
  gv (S_1329.1 600 0) fun x1335 =>
  gg (inr x1325) <|
  if x1325 = 0 then (
  gg (inl x1335) <|
  gv (lsg x1335 0) fun x1340 =>
  gg (inr x1340) <|
  if x1340 = 0 then (
  rec n 2036 2279 S_1329 [a4]
  ) else (
  some (0, S_1329)
  )
  ) else (
  gg (inl x1335) <|
  gv (lsg x1335 1) fun x1345 =>
  gg (inr x1345) <|
  if x1345 = 0 then (
  rec n 2036 2279 S_1329 [a4]
  ) else (
  some (0, S_1329)
  )
  )
  )
  ) else (
  some (0, S_1329)
  )) one1 := by
  obtain ⟨Ds, pg, pp, r, L, Q, C⟩ := l
  have hC : ClS stT Ds pg pp r L Q C S := hc
  have hR : RfS S stT Ds pg pp r L Q C S := hr
  refine ev_gv ?_
  refine ev_gg ⟨by omega, by omega, by omega⟩ ?_
  refine ev_gv ?_
  refine ev_gg (by decide) ?_
  obtain ⟨k, x, l2, hk, hx, hcl, hrf⟩ := pr_isSound (D := 2036 - 1) (by decide) hC hR (hXS _)
  refine ev_gc hcl (fun y S1 q => ?_)
  obtain ⟨e0, h6, hC2, hx2⟩ := q
  subst e0
  refine ev_gv ?_
  refine ev_gg ⟨by omega, by omega, by omega⟩ ?_
  refine ev_gv ?_
  exact lw_t3 (rec := fun n S => rec n 2036 2279 S [a4]) hk hx hC2 h6 (hrf S1 (rf_move hR hx2)) (fun S2 a b => hrec l2 S2 a b)
set_option maxHeartbeats 4000000 in
theorem lw_23 {XL : Nat} {XS : Nat → Int} (hXS : ∀ k, inr (XS k)) {a4 : Int} {l : LT} {S : GS} (h0 : 0 ≤ a4) (h4 : a4 + 4 ≤ (XL : Int)) (hXL : XL ≤ 2048) (hc : CLS l S) (hr : RFS l S S) {rec : Nat → Nat → Nat → GS → List Int → Option (Int × GS)} (hrec : ∀ l2 S2, CLS l2 S2 → RFS l2 S2 S2 → Ev (fun n => rec n 2036 2279 S2 [a4]) one1) : Ev (fun n => b_L_law_23 XL XS n 2036 (rec n) S a4) one1 := by
  unfold b_L_law_23
  refine ev_gv ?_
  refine ev_gg (by first | omega | (constructor <;> omega)) ?_
  refine ev_gg (by first | omega | (constructor <;> omega)) ?_
  refine ev_ite (fun z => by omega) (fun _ => ?_)
  refine ev_gg ⟨by omega, by omega, by omega⟩ ?_
  refine ev_gv ?_
  refine ev_gv ?_
  refine ev_gg (by first | omega | (constructor <;> omega)) ?_
  refine ev_ite (fun _ => lw_c0 (rec := rec) hXS h0 h4 hXL hc hr hrec) (fun _ => ?_)
  refine ev_ite (fun _ => lw_c1 (rec := rec) hXS h0 h4 hXL hc hr hrec) (fun _ => ?_)
  refine ev_ite (fun _ => lw_c2 (rec := rec) hXS h0 h4 hXL hc hr hrec) (fun _ => ?_)
  refine ev_ite (fun _ => lw_c3 (rec := rec) hXS h0 h4 hXL hc hr hrec) (fun _ => ?_)
  refine ev_ite (fun _ => lw_c4 (rec := rec) hXS h0 h4 hXL hc hr hrec) (fun _ => ?_)
  refine ev_ite (fun _ => lw_c5 (rec := rec) hXS h0 h4 hXL hc hr hrec) (fun _ => ?_)
  refine ev_ite (fun _ => lw_c6 (rec := rec) hXS h0 h4 hXL hc hr hrec) (fun _ => ?_)
  refine ev_ite (fun _ => lw_c7 (rec := rec) hXS h0 h4 hXL hc hr hrec) (fun _ => ?_)
  refine ev_ite (fun _ => lw_c8 (rec := rec) hXS h0 h4 hXL hc hr hrec) (fun _ => ?_)
  refine ev_ite (fun _ => lw_c9 (rec := rec) hXS h0 h4 hXL hc hr hrec) (fun _ => ?_)
  refine ev_ite (fun _ => lw_c10 (rec := rec) hXS h0 h4 hXL hc hr hrec) (fun _ => ?_)
  refine ev_ite (fun _ => lw_c11 (rec := rec) hXS h0 h4 hXL hc hr hrec) (fun _ => ?_)
  refine ev_ite (fun _ => lw_c12 (rec := rec) hXS h0 h4 hXL hc hr hrec) (fun _ => ?_)
  refine ev_ite (fun _ => lw_c13 (rec := rec) hXS h0 h4 hXL hc hr hrec) (fun _ => ?_)
  refine ev_ite (fun _ => lw_c14 (rec := rec) hXS h0 h4 hXL hc hr hrec) (fun _ => ?_)
  refine ev_ite (fun _ => lw_c15 (rec := rec) hXS h0 h4 hXL hc hr hrec) (fun _ => ?_)
  refine ev_ite (fun _ => lw_c16 (rec := rec) hXS h0 h4 hXL hc hr hrec) (fun _ => ?_)
  refine ev_ite (fun _ => lw_c17 (rec := rec) hXS h0 h4 hXL hc hr hrec) (fun _ => ?_)
  refine ev_ite (fun _ => lw_c18 (rec := rec) hXS h0 h4 hXL hc hr hrec) (fun _ => ?_)
  refine ev_ite (fun _ => lw_c19 (rec := rec) hXS h0 h4 hXL hc hr hrec) (fun _ => ?_)
  refine ev_ite (fun _ => lw_c20 (rec := rec) hXS h0 h4 hXL hc hr hrec) (fun _ => ?_)
  refine ev_ite (fun _ => lw_c21 (rec := rec) hXS h0 h4 hXL hc hr hrec) (fun _ => ?_)
  refine ev_ite (fun _ => lw_c22 (rec := rec) hXS h0 h4 hXL hc hr hrec) (fun _ => ?_)
  refine ev_ite (fun _ => lw_c23 (rec := rec) hXS h0 h4 hXL hc hr hrec) (fun _ => ?_)
  refine ev_ite (fun _ => lw_c24 (rec := rec) hXS h0 h4 hXL hc hr hrec) (fun _ => ?_)
  refine ev_ite (fun _ => lw_c25 (rec := rec) hXS h0 h4 hXL hc hr hrec) (fun _ => ?_)
  refine ev_ite (fun _ => lw_c26 (rec := rec) hXS h0 h4 hXL hc hr hrec) (fun _ => ?_)
  refine ev_ite (fun _ => lw_c27 (rec := rec) hXS h0 h4 hXL hc hr hrec) (fun _ => ?_)
  refine ev_ite (fun _ => lw_c28 (rec := rec) hXS h0 h4 hXL hc hr hrec) (fun _ => ?_)
  refine ev_ite (fun _ => lw_c29 (rec := rec) hXS h0 h4 hXL hc hr hrec) (fun _ => ?_)
  refine ev_ite (fun _ => lw_c30 (rec := rec) hXS h0 h4 hXL hc hr hrec) (fun _ => ?_)
  refine ev_ite (fun _ => lw_c31 (rec := rec) hXS h0 h4 hXL hc hr hrec) (fun _ => ?_)
  refine ev_ite (fun _ => lw_c32 (rec := rec) hXS h0 h4 hXL hc hr hrec) (fun _ => ?_)
  refine ev_ite (fun _ => lw_c33 (rec := rec) hXS h0 h4 hXL hc hr hrec) (fun _ => ?_)
  exact hrec l S hc hr
theorem e_L_law_23 {XL : Nat} {XS : Nat → Int} {n d : Nat} {S : GS} {a4 : Int} : f_L_law XL XS (n + 1) d 23 S [a4] = b_L_law_23 XL XS n d (f_L_law XL XS n) S a4 := rfl
theorem e_L_law_2279 {XL : Nat} {XS : Nat → Int} {n d : Nat} {S : GS} {a4 : Int} : f_L_law XL XS (n + 1) d 2279 S [a4] = b_L_law_2279 XL XS n d (f_L_law XL XS n) S a4 := rfl
theorem lw_all {XL : Nat} {XS : Nat → Int} (hXL : XL ≤ 2048) (hXS : ∀ k, inr (XS k)) : ∀ (m : Nat) (a4 : Int) (l : LT) (S : GS), 0 ≤ a4 → (XL : Int) - a4 ≤ m → a4 ≤ 4000 → CLS l S → RFS l S S → Ev (fun n => f_L_law XL XS n 2036 23 S [a4]) one1 := by
  intro m
  induction m with
  | zero =>
    intro a4 l S h0 hm h4 hc hr
    refine ev_up (fun n => e_L_law_23) ?_
    unfold b_L_law_23
    refine ev_gv ?_
    refine ev_gg (by first | omega | (constructor <;> omega)) ?_
    refine ev_gg (by first | omega | (constructor <;> omega)) ?_
    refine ev_ite (fun _ => ?_) (fun z => by omega)
    exact ev_ret rfl
  | succ m ih =>
    intro a4 l S h0 hm h4 hc hr
    refine ev_up (fun n => e_L_law_23) ?_
    by_cases c : (XL : Int) - 4 < a4
    · unfold b_L_law_23
      refine ev_gv ?_
      refine ev_gg (by first | omega | (constructor <;> omega)) ?_
      refine ev_gg (by first | omega | (constructor <;> omega)) ?_
      refine ev_ite (fun _ => ?_) (fun z => by omega)
      exact ev_ret rfl
    · refine lw_23 (rec := fun n => f_L_law XL XS n) hXS h0 (by omega) hXL hc hr (fun l2 S2 a b => ?_)
      refine ev_up (fun n => e_L_law_2279) ?_
      unfold b_L_law_2279
      refine ev_gv ?_
      exact ih (a4 + 4) l2 S2 (by omega) (by omega) (by omega) a b
end LAW
