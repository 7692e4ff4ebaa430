/-! THE CLASS's isSound -/
theorem inH_new {h : Bool} {t : List ND} {q : List Int} : ∀ (E : List (List ND)), q ∉ E.map rq → inH h t q E = E ++ [kyT t q] := by
  have i1 : ∀ (E : List (List ND)), q ∉ E.map rq → insK t q E = E ++ [kyT t q]
    | [], _ => rfl
    | u :: E, hn => by
      rw [List.map_cons, List.mem_cons] at hn
      have e : insK t q (u :: E) = if rq u = q then kyT t q :: E else u :: insK t q E := rfl
      have ih : insK t q E = E ++ [kyT t q] := by
        clear e
        induction E with
        | nil => rfl
        | cons v E ih2 =>
          rw [List.map_cons, List.mem_cons] at hn
          have e2 : insK t q (v :: E) = if rq v = q then kyT t q :: E else v :: insK t q E := rfl
          rw [e2, if_neg (fun z => hn (Or.inr (Or.inl z.symm))), ih2 (fun z => hn (z.elim Or.inl (fun y => Or.inr (Or.inr y))))]
          rfl
      rw [e, if_neg (fun z => hn (Or.inl z.symm)), ih]
      rfl
  have i2 : ∀ (E : List (List ND)), q ∉ E.map rq → kpK t q E = E ++ [kyT t q] := by
    intro E
    induction E with
    | nil => intro _; rfl
    | cons v E ih2 =>
      intro hn
      rw [List.map_cons, List.mem_cons] at hn
      have e2 : kpK t q (v :: E) = if rq v = q then v :: E else v :: kpK t q E := rfl
      rw [e2, if_neg (fun z => hn (Or.inl z.symm)), ih2 (fun z => hn (Or.inr z))]
      rfl
  intro E hn
  unfold inH
  cases h with
  | true => rw [if_pos rfl]; exact i1 E hn
  | false => rw [if_neg (by decide)]; exact i2 E hn
/-- no like KEYS: it stays as it is -/
theorem nrH_id {h : Bool} : ∀ (f : Nat) (T : List ND), SDC T → nrH h f T = T
  | 0, T, _ => rfl
  | f + 1, T, hT => by
    rw [nrH_s]
    rcases tr_cases hT.1 with ⟨c, e1, e2⟩ | ⟨c, e⟩
    · rw [if_neg (by omega), if_neg (by omega)]
    · by_cases c5 : rk T = 5
      · rw [if_pos c5]
        have ku := (hT.2.2 1).1 c5
        have fo : ∀ (K E : List (List ND)), (∀ t ∈ K, t ∈ kd T) → ((E ++ K).map rq).Nodup → K.foldl (fun E t => inH h (nrH h f t) (rq t) E) E = E ++ K := by
          intro K
          induction K with
          | nil => intro E _ _; rw [List.append_nil]; rfl
          | cons t K ih =>
            intro E hK hn
            have st := sdc_kd hT (hK t List.mem_cons_self)
            rw [List.foldl_cons, nrH_id f t st, inH_new E (fun z => ?_), ky_self st.1.1.2.1, ih (E ++ [t]) (fun u hu => hK u (List.mem_cons_of_mem _ hu)) (by rw [List.append_assoc]; exact hn), List.append_assoc]
            · rfl
            · rw [List.map_append, List.nodup_append] at hn
              exact hn.2.2 _ z _ (List.mem_map.mpr ⟨t, List.mem_cons_self, rfl⟩) rfl
        rw [fo (kd T) [] (fun t ht => ht) (by rw [List.nil_append]; exact ku), List.nil_append]
        exact e.symm
      · rw [if_neg c5]
        by_cases c4 : rk T = 4
        · rw [if_pos c4]
          have em : (kd T).map (nrH h f) = kd T := by
            have : (kd T).map (nrH h f) = (kd T).map id := List.map_congr_left (fun t ht => nrH_id f t (sdc_kd hT ht))
            rw [this, List.map_id]
          rw [em]
          exact e.symm
        · rw [if_neg c4]
