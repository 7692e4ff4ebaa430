/-! CLASS and reference with the same lists -/
abbrev LT : Type := List (List ND) × List Int × List Int × Int × List Nat × List (List Int) × List (Int × Int)
def CLS (l : LT) (S : GS) : Prop := ClS stT l.1 l.2.1 l.2.2.1 l.2.2.2.1 l.2.2.2.2.1 l.2.2.2.2.2.1 l.2.2.2.2.2.2 S
def RFS (l : LT) (B S : GS) : Prop := RfS B stT l.1 l.2.1 l.2.2.1 l.2.2.2.1 l.2.2.2.2.1 l.2.2.2.2.2.1 l.2.2.2.2.2.2 S
theorem ev_hi {t : Nat} {S : GS} {m : Nat → Option (Int × GS)} {R : Int → GS → Prop} (hp : ∀ n, PH t S (m n)) (h : Ev m R) : Ev m (fun x S1 => R x S1 ∧ Hi t S S1) := by
  obtain ⟨x, S1, q, N, e⟩ := h
  exact ⟨x, S1, ⟨q, hp N x S1 (e N (Nat.le_refl N))⟩, N, e⟩
/-- of the reference's cells none but the answer's changed -/
def HX (S S1 : GS) : Prop := ∀ c, 495 ≤ c → c ≠ 600 → S1.1 c = S.1 c ∧ S1.2.1 c = S.2.1 c
theorem hx_of {S S1 : GS} (h : Hi 495 S S1) : HX S S1 := fun c hc _ => ⟨(h c hc).1, (h c hc).2.1⟩
theorem hx_600 {S S1 : GS} {x : Int} (h : Hi 495 S S1) : HX S (gI S1 600 0 x) := fun c hc hn => ⟨by rw [gI_n hn]; exact (h c hc).1, (h c hc).2.1⟩
theorem cls_600 {l : LT} {S : GS} {x : Int} (h : CLS l S) : CLS l (gI S 600 0 x) := cl_hi h (fun c hc => ⟨gI_n (by omega), rfl⟩) rfl
theorem rf_base {l : LT} {B S : GS} (h : RFS l B S) : RFS l S S := by
  obtain ⟨h1, h2, h3, h4, h5, h6, h7, h8, h9⟩ := h
  exact ⟨h1, h2, h3, h4, h5, h6, h7, h8, fc_rf⟩
theorem rf_move {l : LT} {B S S1 : GS} (h : RFS l B S) (hx : HX S S1) : RFS l S1 S1 := by
  obtain ⟨h1, h2, h3, h4, h5, h6, h7, h8, h9⟩ := h
  have hf : FC (fun c _ => c < 495 ∨ c = 600) S ((S1.1, S1.2.1, S.2.2) : GS) := ⟨fun c k hc => by
    have q := hx c (by omega) (by omega)
    exact ⟨by show S1.1 c k = S.1 c k; rw [q.1], by show S1.2.1 c k = S.2.1 c k; rw [q.2]⟩, rfl⟩
  have r1 := rdo_fr h1 hf (by omega) (fun j _ => by omega) (fun j _ => by omega)
  have r2 := rpg_fr h2 hf (by omega) (fun j => by omega)
  have r3 := pps_fr h3 hf (by omega) (fun j => by omega)
  have r4 : ((S1.1, S1.2.1, S.2.2) : GS).1 500 2 = l.2.2.2.1 := (fc_i hf (by omega)).trans h4.1
  have r5 := rfi_fr h5 hf (by omega) (fun j => by omega)
  have r6 := rqu_fr h6 hf (by omega) (fun j => by omega) (fun j => by omega)
  have r7 := rco_fr h7 hf (by omega) (by omega) (fun j => by omega)
  have r8 := rstd_fr h8 hf (fun j _ => by omega) (by omega)
  exact ⟨r1, r2, r3, ⟨r4, h4.2⟩, r5, r6, r7, r8, fc_rf⟩
theorem cls_ref {l l2 : LT} {S S1 : GS} (h : CLS l S) (g : RFS l2 S S1) : CLS l S1 := by
  obtain ⟨_, _, _, _, _, _, _, _, h9⟩ := g
  exact cl_hi h (fun c hc => ⟨funext fun k => fc_i h9 (fun z => by have z' : 500 ≤ c := z; omega), funext fun k => fc_b h9 (fun z => by have z' : 500 ≤ c := z; omega)⟩) h9.2
/-- a call of both -/
def PR (t : Int → Prop) (fc : Nat → Option (Int × GS)) (fr : Nat → GS → Option (Int × GS)) (l : LT) (S : GS) : Prop := ∃ (k x : Int) (l2 : LT), (0 ≤ k ∧ k ≤ 3) ∧ (k = 0 → t x) ∧ Ev fc (fun y S1 => y = k ∧ (k = 0 → S1.1 600 0 = x) ∧ CLS l2 S1 ∧ HX S S1) ∧ ∀ S1, RFS l S1 S1 → Ev (fun n => fr n S1) (fun b S2 => S2.1 500 0 = k ∧ (k = 0 → b = x) ∧ RFS l2 S1 S2 ∧ S2.1 600 0 = S1.1 600 0)
theorem q_thrown {S : GS} {d : Nat} : Rd (fun n => f_X12_thrown n d 0 S []) (S.1 500 0) S := by
  refine ev_up (fun n => e_X12_thrown_0) ?_
  unfold b_X12_thrown_0
  refine ev_gv ?_
  exact ev_ret ⟨rfl, rfl⟩
section BND
variable {S0 S : GS} {T0 : List ND} {Ds : List (List ND)} {pg pp : List Int} {r : Int} {L : List Nat} {Q : List (List Int)} {C : List (Int × Int)} {d : Nat}
theorem rf_pp (h : RfS S0 T0 Ds pg pp r L Q C S) : inr (pp.length : Int) ∧ rng pp ∧ rng pg := by
  have a := h.2.2.1.2.1
  exact ⟨by constructor <;> omega, h.2.2.1.2.2.2, h.2.1.2.2.2⟩
theorem pp_r (hp : rng pp) : ∀ (n p : Nat) (x : Int) (m : Nat), n + m ≤ 7 → 0 ≤ x ∧ x < 256 ^ m → 0 ≤ ppN pp n p x ∧ ppN pp n p x < 256 ^ (n + m)
  | 0, p, x, m, _, hx => by
    rw [Nat.zero_add]
    exact hx
  | n + 1, p, x, m, hm, hx => by
    have g : 0 ≤ pp.getD p 0 ∧ pp.getD p 0 < 256 := by
      by_cases c : p < pp.length
      · exact hp _ (getD_in c)
      · rw [List.getD_eq_getElem?_getD, List.getElem?_eq_none (by omega)]
        decide
    have e : (256 : Int) ^ (m + 1) = 256 * 256 ^ m := by rw [Int.pow_succ, Int.mul_comm]
    have ih := pp_r hp n (p + 1) (256 * x + pp.getD p 0) (m + 1) (by omega) ⟨by omega, by rw [e]; omega⟩
    rw [show n + 1 + m = n + (m + 1) by omega]
    exact ih
theorem pp_in (hp : rng pp) {n p : Nat} (hn : n ≤ 7) : inl (ppN pp n p 0) ∧ ppN pp n p 0 < exB := by
  have ex := ex_e
  have h := pp_r hp n p 0 0 (by omega) (by decide)
  have b : (256 : Int) ^ (n + 0) ≤ 256 ^ 7 := by
    rcases (show n = 0 ∨ n = 1 ∨ n = 2 ∨ n = 3 ∨ n = 4 ∨ n = 5 ∨ n = 6 ∨ n = 7 by omega) with z | z | z | z | z | z | z | z <;> subst z <;> decide
  have e : (256 : Int) ^ 7 = 72057594037927936 := by decide
  rw [e] at b
  constructor
  · constructor <;> omega
  · omega
theorem szs_le : ∀ (Ds : List (List ND)), (∀ V ∈ Ds, V.length ≤ 100) → szs Ds ≤ 100 * Ds.length
  | [], _ => Nat.zero_le _
  | V :: D, h => by
    have := szs_le D (fun W hW => h W (List.mem_cons_of_mem _ hW))
    have := h V List.mem_cons_self
    show V.length + szs D ≤ 100 * (D.length + 1)
    omega
end BND
