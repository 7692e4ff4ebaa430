/-! THE G LAYER: the heap of the class and of the reference as one state: ints (rows and fields), truths, references that move, by the numbers of the things (wip/gen/glayer.py has the table) -/
def gsh (L : Nat → Nat) (c : Nat) (I : Nat → Int) (B : Nat → Bool) (R : Nat → Nat) : Option XC :=
  if c < 424 then (match c % 8 with
    | 0 => some (xO 9 [.ref (L (c + 1)), .ref (L (c + 2)), .ref (L (c + 3)), .ref (L (c + 4)), .ref (L (c + 5)), .ref (L (c + 6)), .ref (L (c + 7)), .int (J (I 7)), .int (xb (B 8))])
    | 5 => some (xJ 2 4000 I)
    | 7 => some (xJ 2 1200 I)
    | _ => some (xJ 0 100 I))
  else if c < 468 then (if c % 2 = 0 then some (xO 8 [.ref (L (c + 1)), .int (J (I 1))]) else some (xJ 2 (g_room c) I))
  else if c < 500 then (match c with
    | 468 => some (xO 10 [.ref (L 424), .ref (L 426), .ref (L 428), .ref (L 469), .ref (L 320), .ref (L 328), .ref (L 470), .ref (L 471), .ref (L 473), .ref (L 477), .ref (L 482), .ref (L 485), .ref (L 487), .ref (L 494), .int (J (I 14)), .int (J (I 15))])
    | 469 => some (xR 40 (fun k => if k < 40 then some (L (8 * k)) else none))
    | 470 => some (xO 6 [.ref (L 336), .ref (L 344), .ref (L 430), .ref (L 432), .ref (L 434), .ref (L (R 5)), .int (J (I 6)), .int (J (I 7)), .int (J (I 8)), .int (J (I 9))])
    | 471 => some (xO 7 [.ref (L 436), .ref (L 438), .ref (L 472), .int (J (I 3))])
    | 472 => some (xJ 0 400 I)
    | 473 => some (xO 2 [.ref (L 440), .ref (L 442), .ref (L 444), .ref (L 474), .ref (L 475), .ref (L 476), .int (J (I 6))])
    | 474 => some (xJ 0 100 I)
    | 475 => some (xJ 0 100 I)
    | 476 => some (xB 100 B)
    | 477 => some (xO 5 [.ref (L 446), .ref (L 478), .ref (L 479), .ref (L 480), .ref (L 481), .ref (L (R 5)), .ref (L (R 6)), .ref (L (R 7))])
    | 478 => some (xB 10000 B)
    | 479 => some (xJ 0 10000 I)
    | 480 => some (xJ 0 100 I)
    | 481 => some (xJ 0 100 I)
    | 482 => some (xO 1 [.ref (L 360), .ref (L 368), .ref (L 376), .ref (L 384), .ref (L 483), .ref (L 452), .ref (L 454), .int (xb (B 7)), .int (J (I 8)), .int (J (I 9)), .int (J (I 10)), .int (xb (B 11))])
    | 483 => some (xO 7 [.ref (L 448), .ref (L 450), .ref (L 484), .int (J (I 3))])
    | 484 => some (xJ 0 400 I)
    | 485 => some (xO 4 [.ref (L 392), .ref (L 456), .ref (L 458), .ref (L 486), .ref (L (R 4)), .ref (L (R 5)), .ref (L (R 6)), .int (J (I 7)), .int (xb (B 8))])
    | 486 => some (xJ 0 200 I)
    | 487 => some (xO 0 [.ref (L 400), .ref (L 460), .ref (L 462), .ref (L 488), .ref (L 489), .ref (L 490), .ref (L 491), .ref (L 492), .ref (L 493), .ref (L (R 9)), .ref (L (R 10)), .int (J (I 11)), .int (J (I 12)), .int (J (I 13)), .int (J (I 14)), .int (J (I 15)), .int (xb (B 16))])
    | 488 => some (xJ 0 13 I)
    | 489 => some (xJ 0 13 I)
    | 490 => some (xJ 0 1000 I)
    | 491 => some (xJ 0 1000 I)
    | 492 => some (xJ 0 1000 I)
    | 493 => some (xJ 0 1000 I)
    | 494 => some (xO 3 [.ref (L 408), .ref (L 416), .ref (L 464), .ref (L 466), .int (J (I 4))])
    | _ => none)
  else none
theorem gs_468 {L : Nat → Nat} {I : Nat → Int} {B : Nat → Bool} {R : Nat → Nat} : gsh L 468 I B R = some (xO 10 [.ref (L 424), .ref (L 426), .ref (L 428), .ref (L 469), .ref (L 320), .ref (L 328), .ref (L 470), .ref (L 471), .ref (L 473), .ref (L 477), .ref (L 482), .ref (L 485), .ref (L 487), .ref (L 494), .int (J (I 14)), .int (J (I 15))]) := rfl
theorem gs_469 {L : Nat → Nat} {I : Nat → Int} {B : Nat → Bool} {R : Nat → Nat} : gsh L 469 I B R = some (xR 40 (fun k => if k < 40 then some (L (8 * k)) else none)) := rfl
theorem gs_470 {L : Nat → Nat} {I : Nat → Int} {B : Nat → Bool} {R : Nat → Nat} : gsh L 470 I B R = some (xO 6 [.ref (L 336), .ref (L 344), .ref (L 430), .ref (L 432), .ref (L 434), .ref (L (R 5)), .int (J (I 6)), .int (J (I 7)), .int (J (I 8)), .int (J (I 9))]) := rfl
theorem gs_471 {L : Nat → Nat} {I : Nat → Int} {B : Nat → Bool} {R : Nat → Nat} : gsh L 471 I B R = some (xO 7 [.ref (L 436), .ref (L 438), .ref (L 472), .int (J (I 3))]) := rfl
theorem gs_472 {L : Nat → Nat} {I : Nat → Int} {B : Nat → Bool} {R : Nat → Nat} : gsh L 472 I B R = some (xJ 0 400 I) := rfl
theorem gs_473 {L : Nat → Nat} {I : Nat → Int} {B : Nat → Bool} {R : Nat → Nat} : gsh L 473 I B R = some (xO 2 [.ref (L 440), .ref (L 442), .ref (L 444), .ref (L 474), .ref (L 475), .ref (L 476), .int (J (I 6))]) := rfl
theorem gs_474 {L : Nat → Nat} {I : Nat → Int} {B : Nat → Bool} {R : Nat → Nat} : gsh L 474 I B R = some (xJ 0 100 I) := rfl
theorem gs_475 {L : Nat → Nat} {I : Nat → Int} {B : Nat → Bool} {R : Nat → Nat} : gsh L 475 I B R = some (xJ 0 100 I) := rfl
theorem gs_476 {L : Nat → Nat} {I : Nat → Int} {B : Nat → Bool} {R : Nat → Nat} : gsh L 476 I B R = some (xB 100 B) := rfl
theorem gs_477 {L : Nat → Nat} {I : Nat → Int} {B : Nat → Bool} {R : Nat → Nat} : gsh L 477 I B R = some (xO 5 [.ref (L 446), .ref (L 478), .ref (L 479), .ref (L 480), .ref (L 481), .ref (L (R 5)), .ref (L (R 6)), .ref (L (R 7))]) := rfl
theorem gs_478 {L : Nat → Nat} {I : Nat → Int} {B : Nat → Bool} {R : Nat → Nat} : gsh L 478 I B R = some (xB 10000 B) := rfl
theorem gs_479 {L : Nat → Nat} {I : Nat → Int} {B : Nat → Bool} {R : Nat → Nat} : gsh L 479 I B R = some (xJ 0 10000 I) := rfl
theorem gs_480 {L : Nat → Nat} {I : Nat → Int} {B : Nat → Bool} {R : Nat → Nat} : gsh L 480 I B R = some (xJ 0 100 I) := rfl
theorem gs_481 {L : Nat → Nat} {I : Nat → Int} {B : Nat → Bool} {R : Nat → Nat} : gsh L 481 I B R = some (xJ 0 100 I) := rfl
theorem gs_482 {L : Nat → Nat} {I : Nat → Int} {B : Nat → Bool} {R : Nat → Nat} : gsh L 482 I B R = some (xO 1 [.ref (L 360), .ref (L 368), .ref (L 376), .ref (L 384), .ref (L 483), .ref (L 452), .ref (L 454), .int (xb (B 7)), .int (J (I 8)), .int (J (I 9)), .int (J (I 10)), .int (xb (B 11))]) := rfl
theorem gs_483 {L : Nat → Nat} {I : Nat → Int} {B : Nat → Bool} {R : Nat → Nat} : gsh L 483 I B R = some (xO 7 [.ref (L 448), .ref (L 450), .ref (L 484), .int (J (I 3))]) := rfl
theorem gs_484 {L : Nat → Nat} {I : Nat → Int} {B : Nat → Bool} {R : Nat → Nat} : gsh L 484 I B R = some (xJ 0 400 I) := rfl
theorem gs_485 {L : Nat → Nat} {I : Nat → Int} {B : Nat → Bool} {R : Nat → Nat} : gsh L 485 I B R = some (xO 4 [.ref (L 392), .ref (L 456), .ref (L 458), .ref (L 486), .ref (L (R 4)), .ref (L (R 5)), .ref (L (R 6)), .int (J (I 7)), .int (xb (B 8))]) := rfl
theorem gs_486 {L : Nat → Nat} {I : Nat → Int} {B : Nat → Bool} {R : Nat → Nat} : gsh L 486 I B R = some (xJ 0 200 I) := rfl
theorem gs_487 {L : Nat → Nat} {I : Nat → Int} {B : Nat → Bool} {R : Nat → Nat} : gsh L 487 I B R = some (xO 0 [.ref (L 400), .ref (L 460), .ref (L 462), .ref (L 488), .ref (L 489), .ref (L 490), .ref (L 491), .ref (L 492), .ref (L 493), .ref (L (R 9)), .ref (L (R 10)), .int (J (I 11)), .int (J (I 12)), .int (J (I 13)), .int (J (I 14)), .int (J (I 15)), .int (xb (B 16))]) := rfl
theorem gs_488 {L : Nat → Nat} {I : Nat → Int} {B : Nat → Bool} {R : Nat → Nat} : gsh L 488 I B R = some (xJ 0 13 I) := rfl
theorem gs_489 {L : Nat → Nat} {I : Nat → Int} {B : Nat → Bool} {R : Nat → Nat} : gsh L 489 I B R = some (xJ 0 13 I) := rfl
theorem gs_490 {L : Nat → Nat} {I : Nat → Int} {B : Nat → Bool} {R : Nat → Nat} : gsh L 490 I B R = some (xJ 0 1000 I) := rfl
theorem gs_491 {L : Nat → Nat} {I : Nat → Int} {B : Nat → Bool} {R : Nat → Nat} : gsh L 491 I B R = some (xJ 0 1000 I) := rfl
theorem gs_492 {L : Nat → Nat} {I : Nat → Int} {B : Nat → Bool} {R : Nat → Nat} : gsh L 492 I B R = some (xJ 0 1000 I) := rfl
theorem gs_493 {L : Nat → Nat} {I : Nat → Int} {B : Nat → Bool} {R : Nat → Nat} : gsh L 493 I B R = some (xJ 0 1000 I) := rfl
theorem gs_494 {L : Nat → Nat} {I : Nat → Int} {B : Nat → Bool} {R : Nat → Nat} : gsh L 494 I B R = some (xO 3 [.ref (L 408), .ref (L 416), .ref (L 464), .ref (L 466), .int (J (I 4))]) := rfl
theorem gs_t {L : Nat → Nat} {I : Nat → Int} {B : Nat → Bool} {R : Nat → Nat} {t : Nat} (ht : t < 53) : gsh L (8 * t) I B R = some (xO 9 [.ref (L (8 * t + 1)), .ref (L (8 * t + 2)), .ref (L (8 * t + 3)), .ref (L (8 * t + 4)), .ref (L (8 * t + 5)), .ref (L (8 * t + 6)), .ref (L (8 * t + 7)), .int (J (I 7)), .int (xb (B 8))]) := by
  unfold gsh
  rw [if_pos (by omega), show 8 * t % 8 = 0 by omega]
  rfl
theorem gs_t1 {L : Nat → Nat} {I : Nat → Int} {B : Nat → Bool} {R : Nat → Nat} {t : Nat} (ht : t < 53) : gsh L (8 * t + 1) I B R = some (xJ 0 100 I) := by
  unfold gsh
  rw [if_pos (by omega), show (8 * t + 1) % 8 = 1 by omega]
  rfl
theorem gs_t2 {L : Nat → Nat} {I : Nat → Int} {B : Nat → Bool} {R : Nat → Nat} {t : Nat} (ht : t < 53) : gsh L (8 * t + 2) I B R = some (xJ 0 100 I) := by
  unfold gsh
  rw [if_pos (by omega), show (8 * t + 2) % 8 = 2 by omega]
  rfl
theorem gs_t3 {L : Nat → Nat} {I : Nat → Int} {B : Nat → Bool} {R : Nat → Nat} {t : Nat} (ht : t < 53) : gsh L (8 * t + 3) I B R = some (xJ 0 100 I) := by
  unfold gsh
  rw [if_pos (by omega), show (8 * t + 3) % 8 = 3 by omega]
  rfl
theorem gs_t4 {L : Nat → Nat} {I : Nat → Int} {B : Nat → Bool} {R : Nat → Nat} {t : Nat} (ht : t < 53) : gsh L (8 * t + 4) I B R = some (xJ 0 100 I) := by
  unfold gsh
  rw [if_pos (by omega), show (8 * t + 4) % 8 = 4 by omega]
  rfl
theorem gs_t5 {L : Nat → Nat} {I : Nat → Int} {B : Nat → Bool} {R : Nat → Nat} {t : Nat} (ht : t < 53) : gsh L (8 * t + 5) I B R = some (xJ 2 4000 I) := by
  unfold gsh
  rw [if_pos (by omega), show (8 * t + 5) % 8 = 5 by omega]
  rfl
theorem gs_t6 {L : Nat → Nat} {I : Nat → Int} {B : Nat → Bool} {R : Nat → Nat} {t : Nat} (ht : t < 53) : gsh L (8 * t + 6) I B R = some (xJ 0 100 I) := by
  unfold gsh
  rw [if_pos (by omega), show (8 * t + 6) % 8 = 6 by omega]
  rfl
theorem gs_t7 {L : Nat → Nat} {I : Nat → Int} {B : Nat → Bool} {R : Nat → Nat} {t : Nat} (ht : t < 53) : gsh L (8 * t + 7) I B R = some (xJ 2 1200 I) := by
  unfold gsh
  rw [if_pos (by omega), show (8 * t + 7) % 8 = 7 by omega]
  rfl
theorem gs_s {L : Nat → Nat} {I : Nat → Int} {B : Nat → Bool} {R : Nat → Nat} {i : Nat} (hi : i < 22) : gsh L (424 + 2 * i) I B R = some (xO 8 [.ref (L (424 + 2 * i + 1)), .int (J (I 1))]) := by
  unfold gsh
  rw [if_neg (by omega), if_pos (by omega), if_pos (by omega)]
theorem gs_sa {L : Nat → Nat} {I : Nat → Int} {B : Nat → Bool} {R : Nat → Nat} {i : Nat} (hi : i < 22) : gsh L (424 + 2 * i + 1) I B R = some (xJ 2 (g_room (424 + 2 * i + 1)) I) := by
  unfold gsh
  rw [if_neg (by omega), if_pos (by omega), if_neg (by omega)]
def Gh (L : Nat → Nat) (S : GS) (h : XH) : Prop := (∀ c c', c < 700 → c' < 700 → L c = L c' → c = c') ∧ ∀ c, c < 700 → ∀ x, gsh L c (S.1 c) (S.2.1 c) (S.2.2 c) = some x → h (L c) = some x
theorem Gh.up {L : Nat → Nat} {S S' : GS} {h : XH} {c : Nat} {x : XC} (hG : Gh L S h) (hc : c < 700) (ho : ∀ c', c' ≠ c → S'.1 c' = S.1 c' ∧ S'.2.1 c' = S.2.1 c' ∧ S'.2.2 c' = S.2.2 c') (hx : gsh L c (S'.1 c) (S'.2.1 c) (S'.2.2 c) = some x) : Gh L S' (xup h (L c) x) := by
  refine ⟨hG.1, fun c' hc' x' hx' => ?_⟩
  by_cases e : c' = c
  · subst e
    rw [hx] at hx'
    cases hx'
    exact xup_s
  · obtain ⟨h1, h2, h3⟩ := ho c' e
    rw [h1, h2, h3] at hx'
    rw [xup_n (fun z => e (hG.1 _ _ hc' hc z))]
    exact hG.2 c' hc' x' hx'
/-- locals as a function -/
abbrev GL : Type := Nat → Option Value
def gst (f : GL) (i : Nat) (v : Value) : GL := fun k => if k = i then some v else if k + 1 = i then (match f k with
  | some w => if w.category = 2 then none else some w
  | none => none) else f k
def gst2 (f : GL) (i : Nat) (v : Value) : GL := fun k => if k = i then some v else if k = i + 1 then none else if k + 1 = i then (match f k with
  | some w => if w.category = 2 then none else some w
  | none => none) else f k
def gLin (f : GL) (lv : List (Nat × Value)) : Prop := ∀ i v, f i = some v → (i, v) ∈ lv
theorem gst_in {f : GL} {lv : List (Nat × Value)} {i : Nat} {v : Value} (h : gLin f lv) : gLin (gst f i v) (xs1 lv i v) := by
  intro k w hk
  unfold gst at hk
  split at hk
  · rename_i e; subst e; cases hk; exact List.mem_cons_self
  · rename_i e
    refine List.mem_cons_of_mem _ (List.mem_filter.mpr ?_)
    split at hk
    · rename_i e2
      cases hf : f k with
      | none => rw [hf] at hk; cases hk
      | some z =>
        rw [hf] at hk
        dsimp only at hk
        split at hk
        · cases hk
        · rename_i e3
          cases hk
          exact ⟨h k w hf, by simp [e, e3]⟩
    · rename_i e2
      exact ⟨h k w hk, by simp [e, e2]⟩
theorem gst2_in {f : GL} {lv : List (Nat × Value)} {i : Nat} {v : Value} (h : gLin f lv) : gLin (gst2 f i v) (xs2 lv i v) := by
  intro k w hk
  unfold gst2 at hk
  split at hk
  · rename_i e; subst e; cases hk; exact List.mem_cons_self
  · rename_i e
    refine List.mem_cons_of_mem _ (List.mem_filter.mpr ?_)
    split at hk
    · cases hk
    · rename_i e4
      split at hk
      · rename_i e2
        cases hf : f k with
        | none => rw [hf] at hk; cases hk
        | some z =>
          rw [hf] at hk
          dsimp only at hk
          split at hk
          · cases hk
          · rename_i e3
            cases hk
            exact ⟨h k w hf, by simp [e, e3, e4]⟩
      · rename_i e2
        exact ⟨h k w hk, by simp [e, e2, e4]⟩
/-- locals from a written list -/
def gl (l : List (Nat × Value)) : GL := fun k => xlk l k
def gall (f : GL) : List (Nat × Value) → Prop
  | [] => True
  | q :: r => f q.1 = some q.2 ∧ gall f r
theorem gall_gl {f : GL} : ∀ {l : List (Nat × Value)}, gall f l → ∀ i v, gl l i = some v → f i = some v
  | [], _, i, v, h => by cases h
  | q :: r, hq, i, v, h => by
    unfold gl xlk at h
    split at h
    · rename_i e; cases h; rw [← e]; exact hq.1
    · exact gall_gl hq.2 i v h
def GA (l : Launch) (Z : XZ) (L : Nat → Nat) (y : MethodName) (cc : ByteArray) (nL : Nat) (ret : Option FieldType) (hh : List (Nat × Nat × Nat × Nat)) (d mc ms : Nat) (q : Option Value → GS → Prop) (qx : String → GS → Prop) (pc : Nat) (f : GL) (st : List Value) (S : GS) (nc ns : Nat) : Prop :=
  ∀ (h : XH) (lv : List (Nat × Value)), Gh L S h → gLin f lv → XA l Z y cc nL ret hh d mc ms (fun v h' => ∃ S', Gh L S' h' ∧ q v S') (fun E h' => ∃ S', Gh L S' h' ∧ qx E S') pc lv st h nc ns
def GM (l : Launch) (Z : XZ) (L : Nat → Nat) (y : MethodName) (cc : ByteArray) (nL : Nat) (ret : Option FieldType) (hh : List (Nat × Nat × Nat × Nat)) (d mc ms : Nat) (av : List Value) (S : GS) (q : Option Value → GS → Prop) (qx : String → GS → Prop) : Prop :=
  ∀ h, Gh L S h → XMet l Z y cc nL ret hh d mc ms av h (fun v h' => ∃ S', Gh L S' h' ∧ q v S') (fun E h' => ∃ S', Gh L S' h' ∧ qx E S')
theorem GM.of {l : Launch} {Z : XZ} {L : Nat → Nat} {y : MethodName} {cc : ByteArray} {nL : Nat} {ret : Option FieldType} {d mc ms : Nat} {av : List Value} {S : GS} {q : Option Value → GS → Prop} {qx : String → GS → Prop} (hy : plainName y.cls = true) (hn : (lg_sl av).length ≤ nL) (body : GA l Z L y cc nL ret [] d mc ms q qx 0 (gl (lv_args 0 av)) [] S 0 0) : GM l Z L y cc nL ret [] d mc ms av S q qx :=
  fun h hG => XMet.of hy hn (body h _ hG (fun i v hv => xlk_mem hv))
theorem GM.ofH {l : Launch} {Z : XZ} {L : Nat → Nat} {y : MethodName} {cc : ByteArray} {nL : Nat} {ret : Option FieldType} {q0 : Nat × Nat × Nat × Nat} {hr : List (Nat × Nat × Nat × Nat)} {d mc ms : Nat} {av : List Value} {S : GS} {q : Option Value → GS → Prop} {qx : String → GS → Prop} (hy : plainName y.cls = true) (hn : (lg_sl av).length ≤ nL) (body : GA l Z L y cc nL ret (q0 :: hr) d mc ms q qx 0 (gl (lv_args 0 av)) [] S 0 0) : GM l Z L y cc nL ret (q0 :: hr) d mc ms av S q qx :=
  fun h hG => XMet.ofH hy hn (body h _ hG (fun i v hv => xlk_mem hv))
theorem GM.post {l : Launch} {Z : XZ} {L : Nat → Nat} {y : MethodName} {cc : ByteArray} {nL : Nat} {ret : Option FieldType} {hh : List (Nat × Nat × Nat × Nat)} {d mc ms : Nat} {av : List Value} {S : GS} {q q' : Option Value → GS → Prop} {qx qx' : String → GS → Prop} (hM : GM l Z L y cc nL ret hh d mc ms av S q qx) (hq : ∀ v S', q v S' → q' v S') (hx : ∀ E S', qx E S' → qx' E S') : GM l Z L y cc nL ret hh d mc ms av S q' qx' :=
  fun h hG => (hM h hG).post (fun v h' ⟨S', h1, h2⟩ => ⟨S', h1, hq v S' h2⟩) (fun E h' ⟨S', h1, h2⟩ => ⟨S', h1, hx E S' h2⟩)
section GR
variable {l : Launch} {Z : XZ} {L : Nat → Nat} {y : MethodName} {cc : ByteArray} {nL : Nat} {ret : Option FieldType} {hh : List (Nat × Nat × Nat × Nat)} {d mc ms : Nat} {q : Option Value → GS → Prop} {qx : String → GS → Prop} {pc : Nat} {f : GL} {st rest : List Value} {S : GS} {nc ns : Nat}
theorem GA.iload_n {k0 : Fin 4} {x : Int32} (hdg : decode cc pc = .ok (.iload_n k0, 1)) (hv : f (k0 : Nat) = some (.int x)) (k : GA l Z L y cc nL ret hh d mc ms q qx (pc + 1) f (.int x :: st) S nc ns) : GA l Z L y cc nL ret hh d mc ms q qx pc f st S nc ns := by
  intro h lv hG hf D cA ws0 p e s m args below meth c H locs ws ls C hP hD hC hS hl
  exact lv_iload_n C.1 C.2.1 hdg rfl (hl.2.2 _ (hf _ _ hv)) (k h lv hG hf D cA ws0 p e s m args below meth c H locs ws ls C hP hD hC hS hl)
theorem GA.iload {i : Nat} {x : Int32} (hdg : decode cc pc = .ok (.iload i, 2)) (hv : f i = some (.int x)) (k : GA l Z L y cc nL ret hh d mc ms q qx (pc + 2) f (.int x :: st) S nc ns) : GA l Z L y cc nL ret hh d mc ms q qx pc f st S nc ns := by
  intro h lv hG hf D cA ws0 p e s m args below meth c H locs ws ls C hP hD hC hS hl
  exact lv_iload C.1 C.2.1 hdg (hl.2.2 _ (hf _ _ hv)) (k h lv hG hf D cA ws0 p e s m args below meth c H locs ws ls C hP hD hC hS hl)
theorem GA.lload_n {k0 : Fin 4} {x : Int64} (hdg : decode cc pc = .ok (.lload_n k0, 1)) (hv : f (k0 : Nat) = some (.long x)) (k : GA l Z L y cc nL ret hh d mc ms q qx (pc + 1) f (.long x :: st) S nc ns) : GA l Z L y cc nL ret hh d mc ms q qx pc f st S nc ns := by
  intro h lv hG hf D cA ws0 p e s m args below meth c H locs ws ls C hP hD hC hS hl
  exact lv_lload_n C.1 C.2.1 hdg rfl (hl.2.2 _ (hf _ _ hv)) (k h lv hG hf D cA ws0 p e s m args below meth c H locs ws ls C hP hD hC hS hl)
theorem GA.lload {i : Nat} {x : Int64} (hdg : decode cc pc = .ok (.lload i, 2)) (hv : f i = some (.long x)) (k : GA l Z L y cc nL ret hh d mc ms q qx (pc + 2) f (.long x :: st) S nc ns) : GA l Z L y cc nL ret hh d mc ms q qx pc f st S nc ns := by
  intro h lv hG hf D cA ws0 p e s m args below meth c H locs ws ls C hP hD hC hS hl
  exact lv_lload C.1 C.2.1 hdg (hl.2.2 _ (hf _ _ hv)) (k h lv hG hf D cA ws0 p e s m args below meth c H locs ws ls C hP hD hC hS hl)
theorem GA.aload_n {k0 : Fin 4} {x : Nat} (hdg : decode cc pc = .ok (.aload_n k0, 1)) (hv : f (k0 : Nat) = some (.ref x)) (k : GA l Z L y cc nL ret hh d mc ms q qx (pc + 1) f (.ref x :: st) S nc ns) : GA l Z L y cc nL ret hh d mc ms q qx pc f st S nc ns := by
  intro h lv hG hf D cA ws0 p e s m args below meth c H locs ws ls C hP hD hC hS hl
  exact lv_aload_n C.1 C.2.1 hdg rfl (hl.2.2 _ (hf _ _ hv)) (k h lv hG hf D cA ws0 p e s m args below meth c H locs ws ls C hP hD hC hS hl)
theorem GA.aload {i : Nat} {x : Nat} (hdg : decode cc pc = .ok (.aload i, 2)) (hv : f i = some (.ref x)) (k : GA l Z L y cc nL ret hh d mc ms q qx (pc + 2) f (.ref x :: st) S nc ns) : GA l Z L y cc nL ret hh d mc ms q qx pc f st S nc ns := by
  intro h lv hG hf D cA ws0 p e s m args below meth c H locs ws ls C hP hD hC hS hl
  exact lv_aload C.1 C.2.1 hdg (hl.2.2 _ (hf _ _ hv)) (k h lv hG hf D cA ws0 p e s m args below meth c H locs ws ls C hP hD hC hS hl)
theorem GA.istore_n {k0 : Fin 4} {x : Int32} (hdg : decode cc pc = .ok (.istore_n k0, 1)) (hn : (k0 : Nat) < nL) (k : GA l Z L y cc nL ret hh d mc ms q qx (pc + 1) (gst f (k0 : Nat) (.int x)) st S nc ns) : GA l Z L y cc nL ret hh d mc ms q qx pc f (.int x :: st) S nc ns := fun h lv hG hf => XA.istore_n hdg hn rfl (k h _ hG (gst_in hf))
theorem GA.istore {i : Nat} {x : Int32} (hdg : decode cc pc = .ok (.istore i, 2)) (hn : i < nL) (k : GA l Z L y cc nL ret hh d mc ms q qx (pc + 2) (gst f i (.int x)) st S nc ns) : GA l Z L y cc nL ret hh d mc ms q qx pc f (.int x :: st) S nc ns := fun h lv hG hf => XA.istore hdg hn rfl (k h _ hG (gst_in hf))
theorem GA.lstore_n {k0 : Fin 4} {x : Int64} (hdg : decode cc pc = .ok (.lstore_n k0, 1)) (hn : (k0 : Nat) + 1 < nL) (k : GA l Z L y cc nL ret hh d mc ms q qx (pc + 1) (gst2 f (k0 : Nat) (.long x)) st S nc ns) : GA l Z L y cc nL ret hh d mc ms q qx pc f (.long x :: st) S nc ns := fun h lv hG hf => XA.lstore_n hdg hn rfl (k h _ hG (gst2_in hf))
theorem GA.lstore {i : Nat} {x : Int64} (hdg : decode cc pc = .ok (.lstore i, 2)) (hn : i + 1 < nL) (k : GA l Z L y cc nL ret hh d mc ms q qx (pc + 2) (gst2 f i (.long x)) st S nc ns) : GA l Z L y cc nL ret hh d mc ms q qx pc f (.long x :: st) S nc ns := fun h lv hG hf => XA.lstore hdg hn rfl (k h _ hG (gst2_in hf))
theorem GA.astore_n {k0 : Fin 4} {x : Nat} (hdg : decode cc pc = .ok (.astore_n k0, 1)) (hn : (k0 : Nat) < nL) (k : GA l Z L y cc nL ret hh d mc ms q qx (pc + 1) (gst f (k0 : Nat) (.ref x)) st S nc ns) : GA l Z L y cc nL ret hh d mc ms q qx pc f (.ref x :: st) S nc ns := fun h lv hG hf => XA.astore_n hdg hn rfl (k h _ hG (gst_in hf))
theorem GA.astore {i : Nat} {x : Nat} (hdg : decode cc pc = .ok (.astore i, 2)) (hn : i < nL) (k : GA l Z L y cc nL ret hh d mc ms q qx (pc + 2) (gst f i (.ref x)) st S nc ns) : GA l Z L y cc nL ret hh d mc ms q qx pc f (.ref x :: st) S nc ns := fun h lv hG hf => XA.astore hdg hn rfl (k h _ hG (gst_in hf))
theorem GA.iinc {i : Nat} {n a : Int} (hdg : decode cc pc = .ok (.iinc i n, 3)) (hk : f i = some (.int (J a))) (hn : i < nL) (k : GA l Z L y cc nL ret hh d mc ms q qx (pc + 3) (gst f i (.int (J (a + n)))) st S nc ns) : GA l Z L y cc nL ret hh d mc ms q qx pc f st S nc ns := by
  intro h lv hG hf D cA ws0 p e s m args below meth c H locs ws ls C hP hD hC hS hl
  obtain ⟨k9, h9⟩ := List.getElem?_of_mem (hf _ _ hk)
  exact lv_iinc C.1 C.2.1 hdg hl (k := k9) h9 (J_add a n) hn rfl (fun ls' hl' => k h _ hG (gst_in hf) D cA ws0 p e s m args below meth c H locs ws ls' C hP hD hC hS hl')
theorem GA.locals (lv1 : List (Nat × Value)) (hs : gall f lv1) (k : GA l Z L y cc nL ret hh d mc ms q qx pc (gl lv1) st S nc ns) : GA l Z L y cc nL ret hh d mc ms q qx pc f st S nc ns := fun h lv hG hf => k h lv hG (fun i v hv => hf i v (gall_gl hs i v hv))
theorem GA.widen {nc' ns' : Nat} (h1 : nc ≤ nc') (h2 : ns ≤ ns') (k : GA l Z L y cc nL ret hh d mc ms q qx pc f st S nc' ns') : GA l Z L y cc nL ret hh d mc ms q qx pc f st S nc ns := fun h lv hG hf => XA.widen h1 h2 (k h lv hG hf)
theorem GA.iadd {a b : Int} (hdg : decode cc pc = .ok (.iadd, 1)) (k : GA l Z L y cc nL ret hh d mc ms q qx (pc + 1) f (.int (J (a + b)) :: st) S nc ns) : GA l Z L y cc nL ret hh d mc ms q qx pc f (.int (J b) :: .int (J a) :: st) S nc ns := fun h lv hG hf => XJ.iadd hdg (k h lv hG hf)
theorem GA.isub {a b : Int} (hdg : decode cc pc = .ok (.isub, 1)) (k : GA l Z L y cc nL ret hh d mc ms q qx (pc + 1) f (.int (J (a - b)) :: st) S nc ns) : GA l Z L y cc nL ret hh d mc ms q qx pc f (.int (J b) :: .int (J a) :: st) S nc ns := fun h lv hG hf => XJ.isub hdg (k h lv hG hf)
theorem GA.imul {a b : Int} (hdg : decode cc pc = .ok (.imul, 1)) (k : GA l Z L y cc nL ret hh d mc ms q qx (pc + 1) f (.int (J (a * b)) :: st) S nc ns) : GA l Z L y cc nL ret hh d mc ms q qx pc f (.int (J b) :: .int (J a) :: st) S nc ns := fun h lv hG hf => XJ.imul hdg (k h lv hG hf)
theorem GA.idiv {a b : Int} (hdg : decode cc pc = .ok (.idiv, 1)) (ha9 : 0 ≤ a ∧ a < 2147483648) (hb9 : 0 < b ∧ b < 2147483648) (k : GA l Z L y cc nL ret hh d mc ms q qx (pc + 1) f (.int (J (a / b)) :: st) S nc ns) : GA l Z L y cc nL ret hh d mc ms q qx pc f (.int (J b) :: .int (J a) :: st) S nc ns := fun h lv hG hf => XJ.idiv hdg ha9 hb9 (k h lv hG hf)
theorem GA.irem {a b : Int} (hdg : decode cc pc = .ok (.irem, 1)) (ha9 : 0 ≤ a ∧ a < 2147483648) (hb9 : 0 < b ∧ b < 2147483648) (k : GA l Z L y cc nL ret hh d mc ms q qx (pc + 1) f (.int (J (a % b)) :: st) S nc ns) : GA l Z L y cc nL ret hh d mc ms q qx pc f (.int (J b) :: .int (J a) :: st) S nc ns := fun h lv hG hf => XJ.irem hdg ha9 hb9 (k h lv hG hf)
theorem GA.ineg {a : Int} (hdg : decode cc pc = .ok (.ineg, 1)) (k : GA l Z L y cc nL ret hh d mc ms q qx (pc + 1) f (.int (J (-a)) :: st) S nc ns) : GA l Z L y cc nL ret hh d mc ms q qx pc f (.int (J a) :: st) S nc ns := fun h lv hG hf => XJ.ineg hdg (k h lv hG hf)
theorem GA.iconst {n : Int} (hdg : decode cc pc = .ok (.iconst n, 1)) (k : GA l Z L y cc nL ret hh d mc ms q qx (pc + 1) f (.int (J n) :: st) S nc ns) : GA l Z L y cc nL ret hh d mc ms q qx pc f (st) S nc ns := fun h lv hG hf => XJ.iconst hdg (k h lv hG hf)
theorem GA.bipush {n : Int} (hdg : decode cc pc = .ok (.bipush n, 2)) (hv : (Int8.ofInt n).toInt32 = J n) (k : GA l Z L y cc nL ret hh d mc ms q qx (pc + 2) f (.int (J n) :: st) S nc ns) : GA l Z L y cc nL ret hh d mc ms q qx pc f (st) S nc ns := fun h lv hG hf => XJ.bipush hdg hv (k h lv hG hf)
theorem GA.sipush {n : Int} (hdg : decode cc pc = .ok (.sipush n, 3)) (hv : (Int16.ofInt n).toInt32 = J n) (k : GA l Z L y cc nL ret hh d mc ms q qx (pc + 3) f (.int (J n) :: st) S nc ns) : GA l Z L y cc nL ret hh d mc ms q qx pc f (st) S nc ns := fun h lv hG hf => XJ.sipush hdg hv (k h lv hG hf)
theorem GA.ldc {index : Nat} {v : Int} (hw : Cond.constant y.cls index (J v) ∈ xg) (hdg : decode cc pc = .ok (.ldc index, 2)) (k : GA l Z L y cc nL ret hh d mc ms q qx (pc + 2) f (.int (J v) :: st) S nc ns) : GA l Z L y cc nL ret hh d mc ms q qx pc f (st) S nc ns := fun h lv hG hf => XA.ldc hw hdg (k h lv hG hf)
theorem GA.ldcw {index : Nat} {v : Int} (hw : Cond.constant y.cls index (J v) ∈ xg) (hdg : decode cc pc = .ok (.ldc_w index, 3)) (k : GA l Z L y cc nL ret hh d mc ms q qx (pc + 3) f (.int (J v) :: st) S nc ns) : GA l Z L y cc nL ret hh d mc ms q qx pc f (st) S nc ns := fun h lv hG hf => XA.ldcw hw hdg (k h lv hG hf)
theorem GA.ldc2 {index : Nat} {v : Int64} (hw : Cond.constantLong y.cls index v ∈ xg) (hdg : decode cc pc = .ok (.ldc2_w index, 3)) (k : GA l Z L y cc nL ret hh d mc ms q qx (pc + 3) f (.long v :: st) S nc ns) : GA l Z L y cc nL ret hh d mc ms q qx pc f (st) S nc ns := fun h lv hG hf => XA.ldc2 hw hdg (k h lv hG hf)
theorem GA.ldcS {index i : Nat} {tx : String} (hw : (y.cls, index, tx, i) ∈ xstr) (hdg : decode cc pc = .ok (.ldc index, 2)) (k : GA l Z L y cc nL ret hh d mc ms q qx (pc + 2) f (.ref (Z.2.1 i) :: st) S nc ns) : GA l Z L y cc nL ret hh d mc ms q qx pc f (st) S nc ns := fun h lv hG hf => XA.ldcS hw hdg (k h lv hG hf)
theorem GA.lconst {n : Fin 2} {v : Int64} (hdg : decode cc pc = .ok (.lconst n, 1)) (hv : Int64.ofNat (n : Nat) = v) (k : GA l Z L y cc nL ret hh d mc ms q qx (pc + 1) f (.long v :: st) S nc ns) : GA l Z L y cc nL ret hh d mc ms q qx pc f (st) S nc ns := fun h lv hG hf => XA.lconst hdg hv (k h lv hG hf)
theorem GA.null  (hdg : decode cc pc = .ok (.aconst_null, 1)) (k : GA l Z L y cc nL ret hh d mc ms q qx (pc + 1) f (.null :: st) S nc ns) : GA l Z L y cc nL ret hh d mc ms q qx pc f (st) S nc ns := fun h lv hG hf => XA.null hdg (k h lv hG hf)
theorem GA.dup {v : Value} (hdg : decode cc pc = .ok (.dup, 1)) (hv : v.category = 1) (k : GA l Z L y cc nL ret hh d mc ms q qx (pc + 1) f (v :: v :: st) S nc ns) : GA l Z L y cc nL ret hh d mc ms q qx pc f (v :: st) S nc ns := fun h lv hG hf => XA.dup hdg hv (k h lv hG hf)
theorem GA.dup_x1 {v w : Value} (hdg : decode cc pc = .ok (.dup_x1, 1)) (hv : v.category = 1) (hw : w.category = 1) (k : GA l Z L y cc nL ret hh d mc ms q qx (pc + 1) f (v :: w :: v :: st) S nc ns) : GA l Z L y cc nL ret hh d mc ms q qx pc f (v :: w :: st) S nc ns := fun h lv hG hf => XA.dup_x1 hdg hv hw (k h lv hG hf)
theorem GA.dup_x2 {v w z : Value} (hdg : decode cc pc = .ok (.dup_x2, 1)) (hv : v.category = 1) (hw : w.category = 1) (hz : z.category = 1) (k : GA l Z L y cc nL ret hh d mc ms q qx (pc + 1) f (v :: w :: z :: v :: st) S nc ns) : GA l Z L y cc nL ret hh d mc ms q qx pc f (v :: w :: z :: st) S nc ns := fun h lv hG hf => XA.dup_x2 hdg hv hw hz (k h lv hG hf)
theorem GA.dup2 {v w : Value} (hdg : decode cc pc = .ok (.dup2, 1)) (hv : v.category = 1) (hw : w.category = 1) (k : GA l Z L y cc nL ret hh d mc ms q qx (pc + 1) f (v :: w :: v :: w :: st) S nc ns) : GA l Z L y cc nL ret hh d mc ms q qx pc f (v :: w :: st) S nc ns := fun h lv hG hf => XA.dup2 hdg hv hw (k h lv hG hf)
theorem GA.pop {v : Value} (hdg : decode cc pc = .ok (.pop, 1)) (hv : v.category = 1) (k : GA l Z L y cc nL ret hh d mc ms q qx (pc + 1) f (st) S nc ns) : GA l Z L y cc nL ret hh d mc ms q qx pc f (v :: st) S nc ns := fun h lv hG hf => XA.pop hdg hv (k h lv hG hf)
theorem GA.i2c {x : Int} (hdg : decode cc pc = .ok (.i2c, 1)) (hx : 0 ≤ x ∧ x < 65536) (k : GA l Z L y cc nL ret hh d mc ms q qx (pc + 1) f (.int (J x) :: st) S nc ns) : GA l Z L y cc nL ret hh d mc ms q qx pc f (.int (J x) :: st) S nc ns := fun h lv hG hf => XJ.i2c hdg hx (k h lv hG hf)
theorem GA.i2l {x : Int32} {v : Int64} (hdg : decode cc pc = .ok (.i2l, 1)) (hv : x.toInt64 = v) (k : GA l Z L y cc nL ret hh d mc ms q qx (pc + 1) f (.long v :: st) S nc ns) : GA l Z L y cc nL ret hh d mc ms q qx pc f (.int x :: st) S nc ns := fun h lv hG hf => XA.i2l hdg hv (k h lv hG hf)
theorem GA.l2i {x : Int64} {v : Int32} (hdg : decode cc pc = .ok (.l2i, 1)) (hv : x.toInt32 = v) (k : GA l Z L y cc nL ret hh d mc ms q qx (pc + 1) f (.int v :: st) S nc ns) : GA l Z L y cc nL ret hh d mc ms q qx pc f (.long x :: st) S nc ns := fun h lv hG hf => XA.l2i hdg hv (k h lv hG hf)
theorem GA.ladd {x z : Int64} (hdg : decode cc pc = .ok (.ladd, 1)) (k : GA l Z L y cc nL ret hh d mc ms q qx (pc + 1) f (.long (x + z) :: st) S nc ns) : GA l Z L y cc nL ret hh d mc ms q qx pc f (.long z :: .long x :: st) S nc ns := fun h lv hG hf => XA.ladd hdg (k h lv hG hf)
theorem GA.lsub {x z : Int64} (hdg : decode cc pc = .ok (.lsub, 1)) (k : GA l Z L y cc nL ret hh d mc ms q qx (pc + 1) f (.long (x - z) :: st) S nc ns) : GA l Z L y cc nL ret hh d mc ms q qx pc f (.long z :: .long x :: st) S nc ns := fun h lv hG hf => XA.lsub hdg (k h lv hG hf)
theorem GA.lmul {x z : Int64} (hdg : decode cc pc = .ok (.lmul, 1)) (k : GA l Z L y cc nL ret hh d mc ms q qx (pc + 1) f (.long (x * z) :: st) S nc ns) : GA l Z L y cc nL ret hh d mc ms q qx pc f (.long z :: .long x :: st) S nc ns := fun h lv hG hf => XA.lmul hdg (k h lv hG hf)
theorem GA.land {x z : Int64} (hdg : decode cc pc = .ok (.land, 1)) (k : GA l Z L y cc nL ret hh d mc ms q qx (pc + 1) f (.long (x &&& z) :: st) S nc ns) : GA l Z L y cc nL ret hh d mc ms q qx pc f (.long z :: .long x :: st) S nc ns := fun h lv hG hf => XA.land hdg (k h lv hG hf)
theorem GA.lor {x z : Int64} (hdg : decode cc pc = .ok (.lor, 1)) (k : GA l Z L y cc nL ret hh d mc ms q qx (pc + 1) f (.long (x ||| z) :: st) S nc ns) : GA l Z L y cc nL ret hh d mc ms q qx pc f (.long z :: .long x :: st) S nc ns := fun h lv hG hf => XA.lor hdg (k h lv hG hf)
theorem GA.iand {x z v : Int32} (hdg : decode cc pc = .ok (.iand, 1)) (hv : x &&& z = v) (k : GA l Z L y cc nL ret hh d mc ms q qx (pc + 1) f (.int v :: st) S nc ns) : GA l Z L y cc nL ret hh d mc ms q qx pc f (.int z :: .int x :: st) S nc ns := fun h lv hG hf => XA.iand hdg (by rw [hv]; exact k h lv hG hf)
theorem GA.lushr {x v : Int64} {z : Int32} (hdg : decode cc pc = .ok (.lushr, 1)) (hv : (x.toUInt64 >>> (z.toInt64.toUInt64 &&& Int64.toUInt64 63)).toInt64 = v) (k : GA l Z L y cc nL ret hh d mc ms q qx (pc + 1) f (.long v :: st) S nc ns) : GA l Z L y cc nL ret hh d mc ms q qx pc f (.int z :: .long x :: st) S nc ns := fun h lv hG hf => XA.lushr hdg hv (k h lv hG hf)
theorem GA.lshl {x v : Int64} {z : Int32} (hdg : decode cc pc = .ok (.lshl, 1)) (hv : x <<< (z.toInt64 &&& 63) = v) (k : GA l Z L y cc nL ret hh d mc ms q qx (pc + 1) f (.long v :: st) S nc ns) : GA l Z L y cc nL ret hh d mc ms q qx pc f (.int z :: .long x :: st) S nc ns := fun h lv hG hf => XA.lshl hdg hv (k h lv hG hf)
theorem GA.lshr {x v : Int64} {z : Int32} (hdg : decode cc pc = .ok (.lshr, 1)) (hv : x >>> (z.toInt64 &&& 63) = v) (k : GA l Z L y cc nL ret hh d mc ms q qx (pc + 1) f (.long v :: st) S nc ns) : GA l Z L y cc nL ret hh d mc ms q qx pc f (.int z :: .long x :: st) S nc ns := fun h lv hG hf => XA.lshr hdg hv (k h lv hG hf)
theorem GA.if_eq {a : Int} {off : Int} {tgt : Nat} (hdg : decode cc pc = .ok (.ifCond .eq off, 3)) (ht : (pc : Int) + off = (tgt : Int)) (ha9 : -2147483648 ≤ a ∧ a < 2147483648) (kt : a = 0 → GA l Z L y cc nL ret hh d mc ms q qx tgt f st S nc ns) (kf : a ≠ 0 → GA l Z L y cc nL ret hh d mc ms q qx (pc + 3) f st S nc ns) : GA l Z L y cc nL ret hh d mc ms q qx pc f (.int (J a) :: st) S nc ns := fun h lv hG hf => XJ.if_eq hdg ht ha9 (fun c => kt c h lv hG hf) (fun c => kf c h lv hG hf)
theorem GA.icmp_eq {a b : Int} {off : Int} {tgt : Nat} (hdg : decode cc pc = .ok (.if_icmp .eq off, 3)) (ht : (pc : Int) + off = (tgt : Int)) (ha9 : -2147483648 ≤ a ∧ a < 2147483648) (hb9 : -2147483648 ≤ b ∧ b < 2147483648) (kt : a = b → GA l Z L y cc nL ret hh d mc ms q qx tgt f st S nc ns) (kf : a ≠ b → GA l Z L y cc nL ret hh d mc ms q qx (pc + 3) f st S nc ns) : GA l Z L y cc nL ret hh d mc ms q qx pc f (.int (J b) :: .int (J a) :: st) S nc ns := fun h lv hG hf => XJ.icmp_eq hdg ht ha9 hb9 (fun c => kt c h lv hG hf) (fun c => kf c h lv hG hf)
theorem GA.if_ne {a : Int} {off : Int} {tgt : Nat} (hdg : decode cc pc = .ok (.ifCond .ne off, 3)) (ht : (pc : Int) + off = (tgt : Int)) (ha9 : -2147483648 ≤ a ∧ a < 2147483648) (kt : a ≠ 0 → GA l Z L y cc nL ret hh d mc ms q qx tgt f st S nc ns) (kf : a = 0 → GA l Z L y cc nL ret hh d mc ms q qx (pc + 3) f st S nc ns) : GA l Z L y cc nL ret hh d mc ms q qx pc f (.int (J a) :: st) S nc ns := fun h lv hG hf => XJ.if_ne hdg ht ha9 (fun c => kt c h lv hG hf) (fun c => kf c h lv hG hf)
theorem GA.icmp_ne {a b : Int} {off : Int} {tgt : Nat} (hdg : decode cc pc = .ok (.if_icmp .ne off, 3)) (ht : (pc : Int) + off = (tgt : Int)) (ha9 : -2147483648 ≤ a ∧ a < 2147483648) (hb9 : -2147483648 ≤ b ∧ b < 2147483648) (kt : a ≠ b → GA l Z L y cc nL ret hh d mc ms q qx tgt f st S nc ns) (kf : a = b → GA l Z L y cc nL ret hh d mc ms q qx (pc + 3) f st S nc ns) : GA l Z L y cc nL ret hh d mc ms q qx pc f (.int (J b) :: .int (J a) :: st) S nc ns := fun h lv hG hf => XJ.icmp_ne hdg ht ha9 hb9 (fun c => kt c h lv hG hf) (fun c => kf c h lv hG hf)
theorem GA.if_lt {a : Int} {off : Int} {tgt : Nat} (hdg : decode cc pc = .ok (.ifCond .lt off, 3)) (ht : (pc : Int) + off = (tgt : Int)) (ha9 : -2147483648 ≤ a ∧ a < 2147483648) (kt : a < 0 → GA l Z L y cc nL ret hh d mc ms q qx tgt f st S nc ns) (kf : 0 ≤ a → GA l Z L y cc nL ret hh d mc ms q qx (pc + 3) f st S nc ns) : GA l Z L y cc nL ret hh d mc ms q qx pc f (.int (J a) :: st) S nc ns := fun h lv hG hf => XJ.if_lt hdg ht ha9 (fun c => kt c h lv hG hf) (fun c => kf c h lv hG hf)
theorem GA.icmp_lt {a b : Int} {off : Int} {tgt : Nat} (hdg : decode cc pc = .ok (.if_icmp .lt off, 3)) (ht : (pc : Int) + off = (tgt : Int)) (ha9 : -2147483648 ≤ a ∧ a < 2147483648) (hb9 : -2147483648 ≤ b ∧ b < 2147483648) (kt : a < b → GA l Z L y cc nL ret hh d mc ms q qx tgt f st S nc ns) (kf : b ≤ a → GA l Z L y cc nL ret hh d mc ms q qx (pc + 3) f st S nc ns) : GA l Z L y cc nL ret hh d mc ms q qx pc f (.int (J b) :: .int (J a) :: st) S nc ns := fun h lv hG hf => XJ.icmp_lt hdg ht ha9 hb9 (fun c => kt c h lv hG hf) (fun c => kf c h lv hG hf)
theorem GA.if_ge {a : Int} {off : Int} {tgt : Nat} (hdg : decode cc pc = .ok (.ifCond .ge off, 3)) (ht : (pc : Int) + off = (tgt : Int)) (ha9 : -2147483648 ≤ a ∧ a < 2147483648) (kt : 0 ≤ a → GA l Z L y cc nL ret hh d mc ms q qx tgt f st S nc ns) (kf : a < 0 → GA l Z L y cc nL ret hh d mc ms q qx (pc + 3) f st S nc ns) : GA l Z L y cc nL ret hh d mc ms q qx pc f (.int (J a) :: st) S nc ns := fun h lv hG hf => XJ.if_ge hdg ht ha9 (fun c => kt c h lv hG hf) (fun c => kf c h lv hG hf)
theorem GA.icmp_ge {a b : Int} {off : Int} {tgt : Nat} (hdg : decode cc pc = .ok (.if_icmp .ge off, 3)) (ht : (pc : Int) + off = (tgt : Int)) (ha9 : -2147483648 ≤ a ∧ a < 2147483648) (hb9 : -2147483648 ≤ b ∧ b < 2147483648) (kt : b ≤ a → GA l Z L y cc nL ret hh d mc ms q qx tgt f st S nc ns) (kf : a < b → GA l Z L y cc nL ret hh d mc ms q qx (pc + 3) f st S nc ns) : GA l Z L y cc nL ret hh d mc ms q qx pc f (.int (J b) :: .int (J a) :: st) S nc ns := fun h lv hG hf => XJ.icmp_ge hdg ht ha9 hb9 (fun c => kt c h lv hG hf) (fun c => kf c h lv hG hf)
theorem GA.if_gt {a : Int} {off : Int} {tgt : Nat} (hdg : decode cc pc = .ok (.ifCond .gt off, 3)) (ht : (pc : Int) + off = (tgt : Int)) (ha9 : -2147483648 ≤ a ∧ a < 2147483648) (kt : 0 < a → GA l Z L y cc nL ret hh d mc ms q qx tgt f st S nc ns) (kf : a ≤ 0 → GA l Z L y cc nL ret hh d mc ms q qx (pc + 3) f st S nc ns) : GA l Z L y cc nL ret hh d mc ms q qx pc f (.int (J a) :: st) S nc ns := fun h lv hG hf => XJ.if_gt hdg ht ha9 (fun c => kt c h lv hG hf) (fun c => kf c h lv hG hf)
theorem GA.icmp_gt {a b : Int} {off : Int} {tgt : Nat} (hdg : decode cc pc = .ok (.if_icmp .gt off, 3)) (ht : (pc : Int) + off = (tgt : Int)) (ha9 : -2147483648 ≤ a ∧ a < 2147483648) (hb9 : -2147483648 ≤ b ∧ b < 2147483648) (kt : b < a → GA l Z L y cc nL ret hh d mc ms q qx tgt f st S nc ns) (kf : a ≤ b → GA l Z L y cc nL ret hh d mc ms q qx (pc + 3) f st S nc ns) : GA l Z L y cc nL ret hh d mc ms q qx pc f (.int (J b) :: .int (J a) :: st) S nc ns := fun h lv hG hf => XJ.icmp_gt hdg ht ha9 hb9 (fun c => kt c h lv hG hf) (fun c => kf c h lv hG hf)
theorem GA.if_le {a : Int} {off : Int} {tgt : Nat} (hdg : decode cc pc = .ok (.ifCond .le off, 3)) (ht : (pc : Int) + off = (tgt : Int)) (ha9 : -2147483648 ≤ a ∧ a < 2147483648) (kt : a ≤ 0 → GA l Z L y cc nL ret hh d mc ms q qx tgt f st S nc ns) (kf : 0 < a → GA l Z L y cc nL ret hh d mc ms q qx (pc + 3) f st S nc ns) : GA l Z L y cc nL ret hh d mc ms q qx pc f (.int (J a) :: st) S nc ns := fun h lv hG hf => XJ.if_le hdg ht ha9 (fun c => kt c h lv hG hf) (fun c => kf c h lv hG hf)
theorem GA.icmp_le {a b : Int} {off : Int} {tgt : Nat} (hdg : decode cc pc = .ok (.if_icmp .le off, 3)) (ht : (pc : Int) + off = (tgt : Int)) (ha9 : -2147483648 ≤ a ∧ a < 2147483648) (hb9 : -2147483648 ≤ b ∧ b < 2147483648) (kt : a ≤ b → GA l Z L y cc nL ret hh d mc ms q qx tgt f st S nc ns) (kf : b < a → GA l Z L y cc nL ret hh d mc ms q qx (pc + 3) f st S nc ns) : GA l Z L y cc nL ret hh d mc ms q qx pc f (.int (J b) :: .int (J a) :: st) S nc ns := fun h lv hG hf => XJ.icmp_le hdg ht ha9 hb9 (fun c => kt c h lv hG hf) (fun c => kf c h lv hG hf)
theorem GA.ifeqB {b : Bool} {off : Int} {tgt : Nat} (hdg : decode cc pc = .ok (.ifCond .eq off, 3)) (ht : (pc : Int) + off = (tgt : Int)) (kt : b = false → GA l Z L y cc nL ret hh d mc ms q qx tgt f st S nc ns) (kf : b = true → GA l Z L y cc nL ret hh d mc ms q qx (pc + 3) f st S nc ns) : GA l Z L y cc nL ret hh d mc ms q qx pc f (.int (xb b) :: st) S nc ns := fun h lv hG hf => XJ.ifeqB hdg ht (fun c => kt c h lv hG hf) (fun c => kf c h lv hG hf)
theorem GA.ifneB {b : Bool} {off : Int} {tgt : Nat} (hdg : decode cc pc = .ok (.ifCond .ne off, 3)) (ht : (pc : Int) + off = (tgt : Int)) (kt : b = true → GA l Z L y cc nL ret hh d mc ms q qx tgt f st S nc ns) (kf : b = false → GA l Z L y cc nL ret hh d mc ms q qx (pc + 3) f st S nc ns) : GA l Z L y cc nL ret hh d mc ms q qx pc f (.int (xb b) :: st) S nc ns := fun h lv hG hf => XJ.ifneB hdg ht (fun c => kt c h lv hG hf) (fun c => kf c h lv hG hf)
theorem GA.const1 (k : GA l Z L y cc nL ret hh d mc ms q qx pc f (.int (xb true) :: st) S nc ns) : GA l Z L y cc nL ret hh d mc ms q qx pc f (.int (J 1) :: st) S nc ns := k
theorem GA.const0 (k : GA l Z L y cc nL ret hh d mc ms q qx pc f (.int (xb false) :: st) S nc ns) : GA l Z L y cc nL ret hh d mc ms q qx pc f (.int (J 0) :: st) S nc ns := k
theorem GA.goto {off : Int} {tgt : Nat} (hdg : decode cc pc = .ok (.goto off, 3)) (ht : (pc : Int) + off = (tgt : Int)) (k : GA l Z L y cc nL ret hh d mc ms q qx tgt f st S nc ns) : GA l Z L y cc nL ret hh d mc ms q qx pc f st S nc ns := fun h lv hG hf => XA.goto hdg ht (k h lv hG hf)
theorem GA.ifnull {a : Nat} {off : Int} (hdg : decode cc pc = .ok (.ifnull off, 3)) (k : GA l Z L y cc nL ret hh d mc ms q qx (pc + 3) f st S nc ns) : GA l Z L y cc nL ret hh d mc ms q qx pc f (.ref a :: st) S nc ns := fun h lv hG hf => XA.ifnull hdg (k h lv hG hf)
theorem GA.ifnullN {off : Int} {tgt : Nat} (hdg : decode cc pc = .ok (.ifnull off, 3)) (ht : (pc : Int) + off = (tgt : Int)) (k : GA l Z L y cc nL ret hh d mc ms q qx tgt f st S nc ns) : GA l Z L y cc nL ret hh d mc ms q qx pc f (.null :: st) S nc ns := fun h lv hG hf => XA.ifnullN hdg ht (k h lv hG hf)
theorem GA.ifnonnull {a : Nat} {off : Int} {tgt : Nat} (hdg : decode cc pc = .ok (.ifnonnull off, 3)) (ht : (pc : Int) + off = (tgt : Int)) (k : GA l Z L y cc nL ret hh d mc ms q qx tgt f st S nc ns) : GA l Z L y cc nL ret hh d mc ms q qx pc f (.ref a :: st) S nc ns := fun h lv hG hf => XA.ifnonnull hdg ht (k h lv hG hf)
theorem GA.ifnonnullN {off : Int} (hdg : decode cc pc = .ok (.ifnonnull off, 3)) (k : GA l Z L y cc nL ret hh d mc ms q qx (pc + 3) f st S nc ns) : GA l Z L y cc nL ret hh d mc ms q qx pc f (.null :: st) S nc ns := fun h lv hG hf => XA.ifnonnullN hdg (k h lv hG hf)
theorem GA.lookup {dflt : Int} {ps : Array (Int × Int)} {len : Nat} {x : Int32} {off : Int} {tgt : Nat} (hdg : decode cc pc = .ok (.lookupswitch dflt ps, len)) (hp : (ps.toList.zip (ps.toList.drop 1)).all (fun (a, next) => a.1 < next.1) = true) (ho : Op.lookupswitch.offset ps.toList dflt x.toInt = off) (ht : (pc : Int) + off = (tgt : Int)) (k : GA l Z L y cc nL ret hh d mc ms q qx tgt f st S nc ns) : GA l Z L y cc nL ret hh d mc ms q qx pc f (.int x :: st) S nc ns := fun h lv hG hf => XA.lookup hdg hp ho ht (k h lv hG hf)
theorem GA.tableOut {dflt lo hi a : Int} {offs : Array Int} {len : Nat} {tgt : Nat} (hdg : decode cc pc = .ok (.tableswitch dflt lo hi offs, len)) (ha9 : -2147483648 ≤ a ∧ a < 2147483648) (h9 : a < lo ∨ hi < a) (ht : (pc : Int) + dflt = (tgt : Int)) (k : GA l Z L y cc nL ret hh d mc ms q qx tgt f st S nc ns) : GA l Z L y cc nL ret hh d mc ms q qx pc f (.int (J a) :: st) S nc ns := fun h lv hG hf => XA.tableOut hdg (by rw [J_toInt ha9]; exact h9) ht (k h lv hG hf)
theorem GA.tableIn {dflt lo hi a : Int} {offs : Array Int} {len : Nat} {off : Int} {tgt : Nat} (hdg : decode cc pc = .ok (.tableswitch dflt lo hi offs, len)) (ha9 : -2147483648 ≤ a ∧ a < 2147483648) (h1 : lo ≤ a) (h2 : a ≤ hi) (ho : offs[(a - lo).toNat]? = some off) (ht : (pc : Int) + off = (tgt : Int)) (k : GA l Z L y cc nL ret hh d mc ms q qx tgt f st S nc ns) : GA l Z L y cc nL ret hh d mc ms q qx pc f (.int (J a) :: st) S nc ns := fun h lv hG hf => XA.tableIn hdg (by rw [J_toInt ha9]; omega) (by rw [J_toInt ha9]; omega) (by rw [J_toInt ha9]; exact ho) ht (k h lv hG hf)
theorem GA.get {index ci k c : Nat} {fs : List Value} {v : Value} (hf9 : XFld y.cls index ci k) (hdg : decode cc pc = .ok (.getfield index, 3)) (hs : gsh L c (S.1 c) (S.2.1 c) (S.2.2 c) = some (xO ci fs)) (hc : c < 700) (hv : fs[k]? = some v) (k : GA l Z L y cc nL ret hh d mc ms q qx (pc + 3) f (v :: st) S nc ns) : GA l Z L y cc nL ret hh d mc ms q qx pc f (.ref (L c) :: st) S nc ns := fun h lv hG hf => XA.get hf9 hdg (hG.2 c hc _ hs) hv (k h lv hG hf)
theorem GA.put {index ci k c : Nat} {fs : List Value} {v : Value} {S' : GS} (hf9 : XPut y.cls y.name index ci k v) (hdg : decode cc pc = .ok (.putfield index, 3)) (hs : gsh L c (S.1 c) (S.2.1 c) (S.2.2 c) = some (xO ci fs)) (hc : c < 700) (hl : k < fs.length) (ho : ∀ c', c' ≠ c → S'.1 c' = S.1 c' ∧ S'.2.1 c' = S.2.1 c' ∧ S'.2.2 c' = S.2.2 c') (hs' : gsh L c (S'.1 c) (S'.2.1 c) (S'.2.2 c) = some (xO ci (fs.set k v))) (k : GA l Z L y cc nL ret hh d mc ms q qx (pc + 3) f st S' nc ns) : GA l Z L y cc nL ret hh d mc ms q qx pc f (v :: .ref (L c) :: st) S nc ns := fun h lv hG hf => XA.put hf9 hdg (hG.2 c hc _ hs) hl (k _ lv (hG.up hc ho hs') hf)
theorem gI_o {S : GS} {c k : Nat} {x : Int} : ∀ c', c' ≠ c → (gI S c k x).1 c' = S.1 c' ∧ (gI S c k x).2.1 c' = S.2.1 c' ∧ (gI S c k x).2.2 c' = S.2.2 c' := fun _ h => ⟨gI_n h, rfl, rfl⟩
theorem gB_o {S : GS} {c k : Nat} {x : Bool} : ∀ c', c' ≠ c → (gB S c k x).1 c' = S.1 c' ∧ (gB S c k x).2.1 c' = S.2.1 c' ∧ (gB S c k x).2.2 c' = S.2.2 c' := fun _ h => ⟨rfl, gB_n h, rfl⟩
theorem gR_o {S : GS} {c k x : Nat} : ∀ c', c' ≠ c → (gR S c k x).1 c' = S.1 c' ∧ (gR S c k x).2.1 c' = S.2.1 c' ∧ (gR S c k x).2.2 c' = S.2.2 c' := fun _ h => ⟨rfl, rfl, gR_n h⟩
theorem GA.putI {index ci k c : Nat} {fs : List Value} {x : Int} (hf9 : XPut y.cls y.name index ci k (.int (J x))) (hdg : decode cc pc = .ok (.putfield index, 3)) (hs : gsh L c (S.1 c) (S.2.1 c) (S.2.2 c) = some (xO ci fs)) (hc : c < 700) (hl : k < fs.length) (hs' : gsh L c (xset (S.1 c) k x) (S.2.1 c) (S.2.2 c) = some (xO ci (fs.set k (.int (J x))))) (k9 : GA l Z L y cc nL ret hh d mc ms q qx (pc + 3) f st (gI S c k x) nc ns) : GA l Z L y cc nL ret hh d mc ms q qx pc f (.int (J x) :: .ref (L c) :: st) S nc ns := GA.put hf9 hdg hs hc hl gI_o (by rw [gI_1]; exact hs') k9
theorem GA.putB {index ci k c : Nat} {fs : List Value} {x : Bool} (hf9 : XPut y.cls y.name index ci k (.int (xb x))) (hdg : decode cc pc = .ok (.putfield index, 3)) (hs : gsh L c (S.1 c) (S.2.1 c) (S.2.2 c) = some (xO ci fs)) (hc : c < 700) (hl : k < fs.length) (hs' : gsh L c (S.1 c) (xset (S.2.1 c) k x) (S.2.2 c) = some (xO ci (fs.set k (.int (xb x))))) (k9 : GA l Z L y cc nL ret hh d mc ms q qx (pc + 3) f st (gB S c k x) nc ns) : GA l Z L y cc nL ret hh d mc ms q qx pc f (.int (xb x) :: .ref (L c) :: st) S nc ns := GA.put hf9 hdg hs hc hl gB_o (by rw [gB_1]; exact hs') k9
theorem GA.putR {index ci k c x : Nat} {fs : List Value} (hf9 : XPut y.cls y.name index ci k (.ref (L x))) (hdg : decode cc pc = .ok (.putfield index, 3)) (hs : gsh L c (S.1 c) (S.2.1 c) (S.2.2 c) = some (xO ci fs)) (hc : c < 700) (hl : k < fs.length) (hs' : gsh L c (S.1 c) (S.2.1 c) (xset (S.2.2 c) k x) = some (xO ci (fs.set k (.ref (L x))))) (k9 : GA l Z L y cc nL ret hh d mc ms q qx (pc + 3) f st (gR S c k x) nc ns) : GA l Z L y cc nL ret hh d mc ms q qx pc f (.ref (L x) :: .ref (L c) :: st) S nc ns := GA.put hf9 hdg hs hc hl gR_o (by rw [gR_1]; exact hs') k9
theorem GA.iald {c n : Nat} {i : Int} (hdg : decode cc pc = .ok (.iaload, 1)) (hs : gsh L c (S.1 c) (S.2.1 c) (S.2.2 c) = some (xJ 0 n (S.1 c))) (hc : c < 700) (hi : 0 ≤ i ∧ i < (n : Int) ∧ i < 2147483648) (k : GA l Z L y cc nL ret hh d mc ms q qx (pc + 1) f (.int (J (S.1 c i.toNat)) :: st) S nc ns) : GA l Z L y cc nL ret hh d mc ms q qx pc f (.int (J i) :: .ref (L c) :: st) S nc ns := fun h lv hG hf => XJ.iald hdg (hG.2 c hc _ hs) hi (k h lv hG hf)
theorem GA.cald {c n : Nat} {i : Int} (hdg : decode cc pc = .ok (.caload, 1)) (hs : gsh L c (S.1 c) (S.2.1 c) (S.2.2 c) = some (xJ 2 n (S.1 c))) (hc : c < 700) (hi : 0 ≤ i ∧ i < (n : Int) ∧ i < 2147483648) (k : GA l Z L y cc nL ret hh d mc ms q qx (pc + 1) f (.int (J (S.1 c i.toNat)) :: st) S nc ns) : GA l Z L y cc nL ret hh d mc ms q qx pc f (.int (J i) :: .ref (L c) :: st) S nc ns := fun h lv hG hf => XJ.cald hdg (hG.2 c hc _ hs) hi (k h lv hG hf)
theorem GA.zald {c n : Nat} {i : Int} (hdg : decode cc pc = .ok (.baload, 1)) (hs : gsh L c (S.1 c) (S.2.1 c) (S.2.2 c) = some (xB n (S.2.1 c))) (hc : c < 700) (hi : 0 ≤ i ∧ i < (n : Int) ∧ i < 2147483648) (k : GA l Z L y cc nL ret hh d mc ms q qx (pc + 1) f (.int (xb (S.2.1 c i.toNat)) :: st) S nc ns) : GA l Z L y cc nL ret hh d mc ms q qx pc f (.int (J i) :: .ref (L c) :: st) S nc ns := fun h lv hG hf => XJ.zald hdg (hG.2 c hc _ hs) hi (k h lv hG hf)
theorem GA.iast {c n : Nat} {i x : Int} (hdg : decode cc pc = .ok (.iastore, 1)) (hs : ∀ g, gsh L c g (S.2.1 c) (S.2.2 c) = some (xJ 0 n g)) (hc : c < 700) (hi : 0 ≤ i ∧ i < (n : Int) ∧ i < 2147483648) (k : GA l Z L y cc nL ret hh d mc ms q qx (pc + 1) f st (gI S c i.toNat x) nc ns) : GA l Z L y cc nL ret hh d mc ms q qx pc f (.int (J x) :: .int (J i) :: .ref (L c) :: st) S nc ns := fun h lv hG hf => XJ.iast hdg (hG.2 c hc _ (hs _)) hi (k _ lv (hG.up hc gI_o (by rw [gI_1]; exact hs _)) hf)
theorem GA.cast {c n : Nat} {i x : Int} (hdg : decode cc pc = .ok (.castore, 1)) (hs : ∀ g, gsh L c g (S.2.1 c) (S.2.2 c) = some (xJ 2 n g)) (hc : c < 700) (hi : 0 ≤ i ∧ i < (n : Int) ∧ i < 2147483648) (hx : 0 ≤ x ∧ x < 65536) (k : GA l Z L y cc nL ret hh d mc ms q qx (pc + 1) f st (gI S c i.toNat x) nc ns) : GA l Z L y cc nL ret hh d mc ms q qx pc f (.int (J x) :: .int (J i) :: .ref (L c) :: st) S nc ns := fun h lv hG hf => XJ.cast hdg (hG.2 c hc _ (hs _)) hi hx (k _ lv (hG.up hc gI_o (by rw [gI_1]; exact hs _)) hf)
theorem GA.zast {c n : Nat} {i : Int} {x : Bool} (hdg : decode cc pc = .ok (.bastore, 1)) (hs : ∀ g, gsh L c (S.1 c) g (S.2.2 c) = some (xB n g)) (hc : c < 700) (hi : 0 ≤ i ∧ i < (n : Int) ∧ i < 2147483648) (k : GA l Z L y cc nL ret hh d mc ms q qx (pc + 1) f st (gB S c i.toNat x) nc ns) : GA l Z L y cc nL ret hh d mc ms q qx pc f (.int (xb x) :: .int (J i) :: .ref (L c) :: st) S nc ns := fun h lv hG hf => XJ.zast hdg (hG.2 c hc _ (hs _)) hi (k _ lv (hG.up hc gB_o (by rw [gB_1]; exact hs _)) hf)
theorem GA.aald {c n : Nat} {i : Int} {g : Nat → Option Nat} {a : Nat} (hdg : decode cc pc = .ok (.aaload, 1)) (hs : gsh L c (S.1 c) (S.2.1 c) (S.2.2 c) = some (xR n g)) (hc : c < 700) (hi : 0 ≤ i ∧ i < (n : Int) ∧ i < 2147483648) (hv : g i.toNat = some a) (k : GA l Z L y cc nL ret hh d mc ms q qx (pc + 1) f (.ref a :: st) S nc ns) : GA l Z L y cc nL ret hh d mc ms q qx pc f (.int (J i) :: .ref (L c) :: st) S nc ns := fun h lv hG hf => XA.aald hdg (hG.2 c hc _ hs) (J_in hi.1 hi.2.1 hi.2.2) (by rw [J_nat hi.1 hi.2.2, hv]; rfl) (k h lv hG hf)
theorem GA.alen {c t n : Nat} {g : Nat → Int32} (ht9 : t < 5) (hdg : decode cc pc = .ok (.arraylength, 1)) (hs : gsh L c (S.1 c) (S.2.1 c) (S.2.2 c) = some (xI t n g)) (hc : c < 700) (k : GA l Z L y cc nL ret hh d mc ms q qx (pc + 1) f (.int (J n) :: st) S nc ns) : GA l Z L y cc nL ret hh d mc ms q qx pc f (.ref (L c) :: st) S nc ns := fun h lv hG hf => XJ.alen ht9 hdg (hG.2 c hc _ hs) (k h lv hG hf)
theorem GA.mmax {index : Nat} {a b : Int} (hw : Cond.methodLink y.cls index Lib.Math.max.name ∈ xg ∧ Cond.static Lib.Math.max.name ∈ xg ∧ Cond.initialized "java/lang/Math" ∈ xg ∧ Cond.code Lib.Math.max.name Lib.Math.max.code 2 (some .int) ∈ xg) (hdg : decode cc pc = .ok (.invokestatic index, 3)) (ha9 : -2147483648 ≤ a ∧ a < 2147483648) (hb9 : -2147483648 ≤ b ∧ b < 2147483648) (hcat : (st.map fun v => v.category).sum ≤ 8) (hc9 : nc ≤ mc) (hs9 : ns ≤ ms) (k : GA l Z L y cc nL ret hh d mc ms q qx (pc + 3) f (.int (J (max a b)) :: st) S nc ns) : GA l Z L y cc nL ret hh d mc ms q qx pc f (.int (J b) :: .int (J a) :: st) S nc ns := fun h lv hG hf => XJ.mmax hw hdg ha9 hb9 hcat hc9 hs9 (k h lv hG hf)
theorem GA.mmin {index : Nat} {a b : Int} (hw : Cond.methodLink y.cls index Lib.Math.min.name ∈ xg ∧ Cond.static Lib.Math.min.name ∈ xg ∧ Cond.initialized "java/lang/Math" ∈ xg ∧ Cond.code Lib.Math.min.name Lib.Math.min.code 2 (some .int) ∈ xg) (hdg : decode cc pc = .ok (.invokestatic index, 3)) (ha9 : -2147483648 ≤ a ∧ a < 2147483648) (hb9 : -2147483648 ≤ b ∧ b < 2147483648) (hcat : (st.map fun v => v.category).sum ≤ 8) (hc9 : nc ≤ mc) (hs9 : ns ≤ ms) (k : GA l Z L y cc nL ret hh d mc ms q qx (pc + 3) f (.int (J (min a b)) :: st) S nc ns) : GA l Z L y cc nL ret hh d mc ms q qx pc f (.int (J b) :: .int (J a) :: st) S nc ns := fun h lv hG hf => XJ.mmin hw hdg ha9 hb9 hcat hc9 hs9 (k h lv hG hf)
theorem GA.mabs {index : Nat} {a : Int} (hw : Cond.methodLink y.cls index Lib.Math.abs.name ∈ xg ∧ Cond.static Lib.Math.abs.name ∈ xg ∧ Cond.initialized "java/lang/Math" ∈ xg ∧ Cond.code Lib.Math.abs.name Lib.Math.abs.code 1 (some .int) ∈ xg) (hdg : decode cc pc = .ok (.invokestatic index, 3)) (ha9 : -2147483648 ≤ a ∧ a < 2147483648) (hcat : (st.map fun v => v.category).sum ≤ 8) (hc9 : nc ≤ mc) (hs9 : ns ≤ ms) (k : GA l Z L y cc nL ret hh d mc ms q qx (pc + 3) f (.int (J (max a (-a))) :: st) S nc ns) : GA l Z L y cc nL ret hh d mc ms q qx pc f (.int (J a) :: st) S nc ns := fun h lv hG hf => XJ.mabs hw hdg ha9 hcat hc9 hs9 (k h lv hG hf)
theorem GA.iret {x : Int32} (hr : ret = some .int) (hdg : decode cc pc = .ok (.ireturn, 1)) (hc9 : nc ≤ mc) (hs9 : ns ≤ ms) (hq : q (some (.int x)) S) : GA l Z L y cc nL ret hh d mc ms q qx pc f [.int x] S nc ns := fun h lv hG hf => XA.iret hr hdg hc9 hs9 ⟨S, hG, hq⟩
theorem GA.lret {x : Int64} (hr : ret = some .long) (hdg : decode cc pc = .ok (.lreturn, 1)) (hc9 : nc ≤ mc) (hs9 : ns ≤ ms) (hq : q (some (.long x)) S) : GA l Z L y cc nL ret hh d mc ms q qx pc f [.long x] S nc ns := fun h lv hG hf => XA.lret hr hdg hc9 hs9 ⟨S, hG, hq⟩
theorem GA.zret {x : Bool} (hr : ret = some .boolean) (hdg : decode cc pc = .ok (.ireturn, 1)) (hc9 : nc ≤ mc) (hs9 : ns ≤ ms) (hq : q (some (.int (xb x))) S) : GA l Z L y cc nL ret hh d mc ms q qx pc f [.int (xb x)] S nc ns := fun h lv hG hf => XJ.zret hr hdg hc9 hs9 ⟨S, hG, hq⟩
theorem GA.aret {x : Nat} {nm : String} (hr : ret = some (.object nm)) (hdg : decode cc pc = .ok (.areturn, 1)) (hc9 : nc ≤ mc) (hs9 : ns ≤ ms) (hq : q (some (.ref x)) S) : GA l Z L y cc nL ret hh d mc ms q qx pc f [.ref x] S nc ns := fun h lv hG hf => XA.aret hr hdg hc9 hs9 ⟨S, hG, hq⟩
theorem GA.vret (hr : ret = none) (hdg : decode cc pc = .ok (.return_, 1)) (hc9 : nc ≤ mc) (hs9 : ns ≤ ms) (hq : q none S) : GA l Z L y cc nL ret hh d mc ms q qx pc f [] S nc ns := fun h lv hG hf => XA.vret hr hdg hc9 hs9 ⟨S, hG, hq⟩
theorem GA.callV {index ci c n nL2 d2 mc2 ms2 : Nat} {y2 : MethodName} {cc2 : ByteArray} {ret2 : Option FieldType} {Cn : String} {T : u_T} {N : Nat} {fs As : List Value} {q2 : Option Value → GS → Prop} {qx2 : String → GS → Prop} (hM : GM l Z L y2 cc2 nL2 ret2 [] d2 mc2 ms2 (.ref (L c) :: As) S q2 qx2) (hsite : XSiteV y.cls index Cn y2 cc2 nL2 ret2 n) (hdg : decode cc pc = .ok (.invokevirtual index, 3)) (hs : gsh L c (S.1 c) (S.2.1 c) (S.2.2 c) = some (xO ci fs)) (hc : c < 700) (hcl : vwCl[ci]? = some (Cn, T, N)) (hst : rest = As.reverse ++ .ref (L c) :: st) (hd : d2 + 1 ≤ d) (hn2 : nL2 ≤ 22) (hlen : As.length = n) (hcat : (st.map fun v => v.category).sum ≤ 8) (hc9 : nc + mc2 ≤ mc) (hs9 : ns + ms2 ≤ ms) (hh9 : hh = []) (kx : ∀ E S', qx2 E S' → qx E S') (kk : ∀ v S', q2 v S' → GA l Z L y cc nL ret hh d mc ms q qx (pc + 3) f (v.toList ++ st) S' (nc + mc2) (ns + ms2)) : GA l Z L y cc nL ret hh d mc ms q qx pc f rest S nc ns := fun h lv hG hf => XA.callV (hM h hG) hsite hdg (hG.2 c hc _ hs) hcl hst hd hn2 hlen hcat hc9 hs9 (fun E h' ⟨S', h1, h2⟩ => XT.nil hh9 hc9 hs9 ⟨S', h1, kx E S' h2⟩) (fun v h' ⟨S', h1, h2⟩ => kk v S' h2 h' lv h1 hf)
theorem GA.callN {index ci c n nL2 d2 mc2 ms2 : Nat} {y2 : MethodName} {cc2 : ByteArray} {ret2 : Option FieldType} {Cn : String} {T : u_T} {N : Nat} {fs As : List Value} {q2 : Option Value → GS → Prop} {qx2 : String → GS → Prop} (hM : GM l Z L y2 cc2 nL2 ret2 [] d2 mc2 ms2 (.ref (L c) :: As) S q2 qx2) (hsite : XSiteN y.cls index Cn y2 cc2 nL2 ret2 n) (hdg : decode cc pc = .ok (.invokevirtual index, 3)) (hs : gsh L c (S.1 c) (S.2.1 c) (S.2.2 c) = some (xO ci fs)) (hc : c < 700) (hcl : vwCl[ci]? = some (Cn, T, N)) (hst : rest = As.reverse ++ .ref (L c) :: st) (hd : d2 + 1 ≤ d) (hn2 : nL2 ≤ 22) (hlen : As.length = n) (hcat : (st.map fun v => v.category).sum ≤ 8) (hc9 : nc + mc2 ≤ mc) (hs9 : ns + ms2 ≤ ms) (hh9 : hh = []) (kx : ∀ E S', qx2 E S' → qx E S') (kk : ∀ v S', q2 v S' → GA l Z L y cc nL ret hh d mc ms q qx (pc + 3) f (v.toList ++ st) S' (nc + mc2) (ns + ms2)) : GA l Z L y cc nL ret hh d mc ms q qx pc f rest S nc ns := fun h lv hG hf => XA.callN (hM h hG) hsite hdg (hG.2 c hc _ hs) hcl hst hd hn2 hlen hcat hc9 hs9 (fun E h' ⟨S', h1, h2⟩ => XT.nil hh9 hc9 hs9 ⟨S', h1, kx E S' h2⟩) (fun v h' ⟨S', h1, h2⟩ => kk v S' h2 h' lv h1 hf)
theorem GA.callS {index n nL2 d2 mc2 ms2 : Nat} {y2 : MethodName} {cc2 : ByteArray} {ret2 : Option FieldType} {As : List Value} {q2 : Option Value → GS → Prop} {qx2 : String → GS → Prop} (hM : GM l Z L y2 cc2 nL2 ret2 [] d2 mc2 ms2 As S q2 qx2) (hsite : XSiteS y.cls index y2 cc2 nL2 ret2 n) (hdg : decode cc pc = .ok (.invokestatic index, 3)) (hst : rest = As.reverse ++ st) (hd : d2 + 1 ≤ d) (hn2 : nL2 ≤ 22) (hlen : As.length = n) (hcat : (st.map fun v => v.category).sum ≤ 8) (hc9 : nc + mc2 ≤ mc) (hs9 : ns + ms2 ≤ ms) (hh9 : hh = []) (kx : ∀ E S', qx2 E S' → qx E S') (kk : ∀ v S', q2 v S' → GA l Z L y cc nL ret hh d mc ms q qx (pc + 3) f (v.toList ++ st) S' (nc + mc2) (ns + ms2)) : GA l Z L y cc nL ret hh d mc ms q qx pc f rest S nc ns := fun h lv hG hf => XA.callS (hM h hG) hsite hdg hst hd hn2 hlen hcat hc9 hs9 (fun E h' ⟨S', h1, h2⟩ => XT.nil hh9 hc9 hs9 ⟨S', h1, kx E S' h2⟩) (fun v h' ⟨S', h1, h2⟩ => kk v S' h2 h' lv h1 hf)
theorem GA.callSN {index n nL2 d2 mc2 ms2 : Nat} {y2 : MethodName} {cc2 : ByteArray} {ret2 : Option FieldType} {As : List Value} {q2 : Option Value → GS → Prop} {qx2 : String → GS → Prop} (hM : GM l Z L y2 cc2 nL2 ret2 [] d2 mc2 ms2 As S q2 qx2) (hsite : XSiteSN y.cls index y2 cc2 nL2 ret2 n) (hdg : decode cc pc = .ok (.invokestatic index, 3)) (hst : rest = As.reverse ++ st) (hd : d2 + 1 ≤ d) (hn2 : nL2 ≤ 22) (hlen : As.length = n) (hcat : (st.map fun v => v.category).sum ≤ 8) (hc9 : nc + mc2 ≤ mc) (hs9 : ns + ms2 ≤ ms) (hh9 : hh = []) (kx : ∀ E S', qx2 E S' → qx E S') (kk : ∀ v S', q2 v S' → GA l Z L y cc nL ret hh d mc ms q qx (pc + 3) f (v.toList ++ st) S' (nc + mc2) (ns + ms2)) : GA l Z L y cc nL ret hh d mc ms q qx pc f rest S nc ns := fun h lv hG hf => XA.callSN (hM h hG) hsite hdg hst hd hn2 hlen hcat hc9 hs9 (fun E h' ⟨S', h1, h2⟩ => XT.nil hh9 hc9 hs9 ⟨S', h1, kx E S' h2⟩) (fun v h' ⟨S', h1, h2⟩ => kk v S' h2 h' lv h1 hf)
end GR
