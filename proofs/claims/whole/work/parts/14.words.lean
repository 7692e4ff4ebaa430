/-! every word by its place; the sites of fields, calls, constants (by program: wip/gen/words.py) -/
theorem xgi (i : Nat) {w : Cond} (h : lw_tbl[i]? = some w) (g : goodWord w = true) : w ∈ xg := xg_in (List.mem_of_getElem? h) g
theorem xti (i : Nat) {w : Cond} (h : lw_tbl[i]? = some w) : w ∈ lw_tbl := List.mem_of_getElem? h
theorem xm1 {w : Cond} (h : w ∈ tables_1_1) : w ∈ lw_tbl := List.mem_append_right _ (List.mem_append_left _ h)
theorem xg1 (i : Nat) {w : Cond} (h : tables_1_1[i]? = some w) (g : goodWord w = true) : w ∈ xg := xg_in (xm1 (List.mem_of_getElem? h)) g
theorem xt1 (i : Nat) {w : Cond} (h : tables_1_1[i]? = some w) : w ∈ lw_tbl := xm1 (List.mem_of_getElem? h)
theorem xm2 {w : Cond} (h : w ∈ tables_1_2) : w ∈ lw_tbl := List.mem_append_right _ (List.mem_append_right _ (List.mem_append_left _ h))
theorem xg2 (i : Nat) {w : Cond} (h : tables_1_2[i]? = some w) (g : goodWord w = true) : w ∈ xg := xg_in (xm2 (List.mem_of_getElem? h)) g
theorem xt2 (i : Nat) {w : Cond} (h : tables_1_2[i]? = some w) : w ∈ lw_tbl := xm2 (List.mem_of_getElem? h)
theorem xm3 {w : Cond} (h : w ∈ tables_1_3) : w ∈ lw_tbl := List.mem_append_right _ (List.mem_append_right _ (List.mem_append_right _ (List.mem_append_left _ h)))
theorem xg3 (i : Nat) {w : Cond} (h : tables_1_3[i]? = some w) (g : goodWord w = true) : w ∈ xg := xg_in (xm3 (List.mem_of_getElem? h)) g
theorem xt3 (i : Nat) {w : Cond} (h : tables_1_3[i]? = some w) : w ∈ lw_tbl := xm3 (List.mem_of_getElem? h)
theorem xm4 {w : Cond} (h : w ∈ tables_1_4) : w ∈ lw_tbl := List.mem_append_right _ (List.mem_append_right _ (List.mem_append_right _ (List.mem_append_right _ (List.mem_append_left _ h))))
theorem xg4 (i : Nat) {w : Cond} (h : tables_1_4[i]? = some w) (g : goodWord w = true) : w ∈ xg := xg_in (xm4 (List.mem_of_getElem? h)) g
theorem xt4 (i : Nat) {w : Cond} (h : tables_1_4[i]? = some w) : w ∈ lw_tbl := xm4 (List.mem_of_getElem? h)
theorem xm5 {w : Cond} (h : w ∈ tables_1_5) : w ∈ lw_tbl := List.mem_append_right _ (List.mem_append_right _ (List.mem_append_right _ (List.mem_append_right _ (List.mem_append_right _ (List.mem_append_left _ h)))))
theorem xg5 (i : Nat) {w : Cond} (h : tables_1_5[i]? = some w) (g : goodWord w = true) : w ∈ xg := xg_in (xm5 (List.mem_of_getElem? h)) g
theorem xt5 (i : Nat) {w : Cond} (h : tables_1_5[i]? = some w) : w ∈ lw_tbl := xm5 (List.mem_of_getElem? h)
theorem xm6 {w : Cond} (h : w ∈ tables_1_6) : w ∈ lw_tbl := List.mem_append_right _ (List.mem_append_right _ (List.mem_append_right _ (List.mem_append_right _ (List.mem_append_right _ (List.mem_append_right _ (List.mem_append_left _ h))))))
theorem xg6 (i : Nat) {w : Cond} (h : tables_1_6[i]? = some w) (g : goodWord w = true) : w ∈ xg := xg_in (xm6 (List.mem_of_getElem? h)) g
theorem xt6 (i : Nat) {w : Cond} (h : tables_1_6[i]? = some w) : w ∈ lw_tbl := xm6 (List.mem_of_getElem? h)
theorem xm7 {w : Cond} (h : w ∈ tables_1_7) : w ∈ lw_tbl := List.mem_append_right _ (List.mem_append_right _ (List.mem_append_right _ (List.mem_append_right _ (List.mem_append_right _ (List.mem_append_right _ (List.mem_append_right _ (List.mem_append_left _ h)))))))
theorem xg7 (i : Nat) {w : Cond} (h : tables_1_7[i]? = some w) (g : goodWord w = true) : w ∈ xg := xg_in (xm7 (List.mem_of_getElem? h)) g
theorem xt7 (i : Nat) {w : Cond} (h : tables_1_7[i]? = some w) : w ∈ lw_tbl := xm7 (List.mem_of_getElem? h)
theorem xm8 {w : Cond} (h : w ∈ tables_1_8) : w ∈ lw_tbl := List.mem_append_right _ (List.mem_append_right _ (List.mem_append_right _ (List.mem_append_right _ (List.mem_append_right _ (List.mem_append_right _ (List.mem_append_right _ (List.mem_append_right _ (List.mem_append_left _ h))))))))
theorem xg8 (i : Nat) {w : Cond} (h : tables_1_8[i]? = some w) (g : goodWord w = true) : w ∈ xg := xg_in (xm8 (List.mem_of_getElem? h)) g
theorem xt8 (i : Nat) {w : Cond} (h : tables_1_8[i]? = some w) : w ∈ lw_tbl := xm8 (List.mem_of_getElem? h)
theorem xm9 {w : Cond} (h : w ∈ tables_1_9) : w ∈ lw_tbl := List.mem_append_right _ (List.mem_append_right _ (List.mem_append_right _ (List.mem_append_right _ (List.mem_append_right _ (List.mem_append_right _ (List.mem_append_right _ (List.mem_append_right _ (List.mem_append_right _ (List.mem_append_left _ h)))))))))
theorem xg9 (i : Nat) {w : Cond} (h : tables_1_9[i]? = some w) (g : goodWord w = true) : w ∈ xg := xg_in (xm9 (List.mem_of_getElem? h)) g
theorem xt9 (i : Nat) {w : Cond} (h : tables_1_9[i]? = some w) : w ∈ lw_tbl := xm9 (List.mem_of_getElem? h)
theorem xm10 {w : Cond} (h : w ∈ tables_1_10) : w ∈ lw_tbl := List.mem_append_right _ (List.mem_append_right _ (List.mem_append_right _ (List.mem_append_right _ (List.mem_append_right _ (List.mem_append_right _ (List.mem_append_right _ (List.mem_append_right _ (List.mem_append_right _ (List.mem_append_right _ (List.mem_append_left _ h))))))))))
theorem xg10 (i : Nat) {w : Cond} (h : tables_1_10[i]? = some w) (g : goodWord w = true) : w ∈ xg := xg_in (xm10 (List.mem_of_getElem? h)) g
theorem xt10 (i : Nat) {w : Cond} (h : tables_1_10[i]? = some w) : w ∈ lw_tbl := xm10 (List.mem_of_getElem? h)
theorem xm11 {w : Cond} (h : w ∈ tables_1_11) : w ∈ lw_tbl := List.mem_append_right _ (List.mem_append_right _ (List.mem_append_right _ (List.mem_append_right _ (List.mem_append_right _ (List.mem_append_right _ (List.mem_append_right _ (List.mem_append_right _ (List.mem_append_right _ (List.mem_append_right _ (List.mem_append_right _ (List.mem_append_left _ h)))))))))))
theorem xg11 (i : Nat) {w : Cond} (h : tables_1_11[i]? = some w) (g : goodWord w = true) : w ∈ xg := xg_in (xm11 (List.mem_of_getElem? h)) g
theorem xt11 (i : Nat) {w : Cond} (h : tables_1_11[i]? = some w) : w ∈ lw_tbl := xm11 (List.mem_of_getElem? h)
theorem xm12 {w : Cond} (h : w ∈ tables_1_12) : w ∈ lw_tbl := List.mem_append_right _ (List.mem_append_right _ (List.mem_append_right _ (List.mem_append_right _ (List.mem_append_right _ (List.mem_append_right _ (List.mem_append_right _ (List.mem_append_right _ (List.mem_append_right _ (List.mem_append_right _ (List.mem_append_right _ (List.mem_append_right _ (h))))))))))))
theorem xg12 (i : Nat) {w : Cond} (h : tables_1_12[i]? = some w) (g : goodWord w = true) : w ∈ xg := xg_in (xm12 (List.mem_of_getElem? h)) g
theorem xt12 (i : Nat) {w : Cond} (h : tables_1_12[i]? = some w) : w ∈ lw_tbl := xm12 (List.mem_of_getElem? h)
theorem xp1 (i : Nat) {q : MethodName × Nat} (h9 : lw_privs_1[i]? = some q) (g : goodWord (Cond.selects q.1.cls q.1 q.1) = true) : Cond.selects q.1.cls q.1 q.1 ∈ xg := by
  have h := List.mem_of_getElem? h9
  exact xg_in (List.mem_append_left _ (List.mem_map.mpr ⟨q, (List.mem_append_left _ h), rfl⟩)) g
theorem xp2 (i : Nat) {q : MethodName × Nat} (h9 : lw_privs_2[i]? = some q) (g : goodWord (Cond.selects q.1.cls q.1 q.1) = true) : Cond.selects q.1.cls q.1 q.1 ∈ xg := by
  have h := List.mem_of_getElem? h9
  exact xg_in (List.mem_append_left _ (List.mem_map.mpr ⟨q, (List.mem_append_right _ (List.mem_append_left _ h)), rfl⟩)) g
theorem xp3 (i : Nat) {q : MethodName × Nat} (h9 : lw_privs_3[i]? = some q) (g : goodWord (Cond.selects q.1.cls q.1 q.1) = true) : Cond.selects q.1.cls q.1 q.1 ∈ xg := by
  have h := List.mem_of_getElem? h9
  exact xg_in (List.mem_append_left _ (List.mem_map.mpr ⟨q, (List.mem_append_right _ (List.mem_append_right _ (List.mem_append_left _ h))), rfl⟩)) g
theorem xp4 (i : Nat) {q : MethodName × Nat} (h9 : lw_privs_4[i]? = some q) (g : goodWord (Cond.selects q.1.cls q.1 q.1) = true) : Cond.selects q.1.cls q.1 q.1 ∈ xg := by
  have h := List.mem_of_getElem? h9
  exact xg_in (List.mem_append_left _ (List.mem_map.mpr ⟨q, (List.mem_append_right _ (List.mem_append_right _ (List.mem_append_right _ (List.mem_append_left _ h)))), rfl⟩)) g
theorem xp5 (i : Nat) {q : MethodName × Nat} (h9 : lw_privs_5[i]? = some q) (g : goodWord (Cond.selects q.1.cls q.1 q.1) = true) : Cond.selects q.1.cls q.1 q.1 ∈ xg := by
  have h := List.mem_of_getElem? h9
  exact xg_in (List.mem_append_left _ (List.mem_map.mpr ⟨q, (List.mem_append_right _ (List.mem_append_right _ (List.mem_append_right _ (List.mem_append_right _ (List.mem_append_left _ h))))), rfl⟩)) g
theorem xp6 (i : Nat) {q : MethodName × Nat} (h9 : lw_privs_6[i]? = some q) (g : goodWord (Cond.selects q.1.cls q.1 q.1) = true) : Cond.selects q.1.cls q.1 q.1 ∈ xg := by
  have h := List.mem_of_getElem? h9
  exact xg_in (List.mem_append_left _ (List.mem_map.mpr ⟨q, (List.mem_append_right _ (List.mem_append_right _ (List.mem_append_right _ (List.mem_append_right _ (List.mem_append_right _ (List.mem_append_left _ h)))))), rfl⟩)) g
theorem xp7 (i : Nat) {q : MethodName × Nat} (h9 : lw_privs_7[i]? = some q) (g : goodWord (Cond.selects q.1.cls q.1 q.1) = true) : Cond.selects q.1.cls q.1 q.1 ∈ xg := by
  have h := List.mem_of_getElem? h9
  exact xg_in (List.mem_append_left _ (List.mem_map.mpr ⟨q, (List.mem_append_right _ (List.mem_append_right _ (List.mem_append_right _ (List.mem_append_right _ (List.mem_append_right _ (List.mem_append_right _ (List.mem_append_left _ h))))))), rfl⟩)) g
theorem xp8 (i : Nat) {q : MethodName × Nat} (h9 : lw_privs_8[i]? = some q) (g : goodWord (Cond.selects q.1.cls q.1 q.1) = true) : Cond.selects q.1.cls q.1 q.1 ∈ xg := by
  have h := List.mem_of_getElem? h9
  exact xg_in (List.mem_append_left _ (List.mem_map.mpr ⟨q, (List.mem_append_right _ (List.mem_append_right _ (List.mem_append_right _ (List.mem_append_right _ (List.mem_append_right _ (List.mem_append_right _ (List.mem_append_right _ (List.mem_append_left _ h)))))))), rfl⟩)) g
theorem xp9 (i : Nat) {q : MethodName × Nat} (h9 : lw_privs_9[i]? = some q) (g : goodWord (Cond.selects q.1.cls q.1 q.1) = true) : Cond.selects q.1.cls q.1 q.1 ∈ xg := by
  have h := List.mem_of_getElem? h9
  exact xg_in (List.mem_append_left _ (List.mem_map.mpr ⟨q, (List.mem_append_right _ (List.mem_append_right _ (List.mem_append_right _ (List.mem_append_right _ (List.mem_append_right _ (List.mem_append_right _ (List.mem_append_right _ (List.mem_append_right _ (List.mem_append_left _ h))))))))), rfl⟩)) g
theorem xp10 (i : Nat) {q : MethodName × Nat} (h9 : lw_privs_10[i]? = some q) (g : goodWord (Cond.selects q.1.cls q.1 q.1) = true) : Cond.selects q.1.cls q.1 q.1 ∈ xg := by
  have h := List.mem_of_getElem? h9
  exact xg_in (List.mem_append_left _ (List.mem_map.mpr ⟨q, (List.mem_append_right _ (List.mem_append_right _ (List.mem_append_right _ (List.mem_append_right _ (List.mem_append_right _ (List.mem_append_right _ (List.mem_append_right _ (List.mem_append_right _ (List.mem_append_right _ (List.mem_append_left _ h)))))))))), rfl⟩)) g
theorem xp11 (i : Nat) {q : MethodName × Nat} (h9 : lw_privs_11[i]? = some q) (g : goodWord (Cond.selects q.1.cls q.1 q.1) = true) : Cond.selects q.1.cls q.1 q.1 ∈ xg := by
  have h := List.mem_of_getElem? h9
  exact xg_in (List.mem_append_left _ (List.mem_map.mpr ⟨q, (List.mem_append_right _ (List.mem_append_right _ (List.mem_append_right _ (List.mem_append_right _ (List.mem_append_right _ (List.mem_append_right _ (List.mem_append_right _ (List.mem_append_right _ (List.mem_append_right _ (List.mem_append_right _ (List.mem_append_left _ h))))))))))), rfl⟩)) g
theorem xp12 (i : Nat) {q : MethodName × Nat} (h9 : lw_privs_12[i]? = some q) (g : goodWord (Cond.selects q.1.cls q.1 q.1) = true) : Cond.selects q.1.cls q.1 q.1 ∈ xg := by
  have h := List.mem_of_getElem? h9
  exact xg_in (List.mem_append_left _ (List.mem_map.mpr ⟨q, (List.mem_append_right _ (List.mem_append_right _ (List.mem_append_right _ (List.mem_append_right _ (List.mem_append_right _ (List.mem_append_right _ (List.mem_append_right _ (List.mem_append_right _ (List.mem_append_right _ (List.mem_append_right _ (List.mem_append_right _ (List.mem_append_left _ h)))))))))))), rfl⟩)) g
theorem xp13 (i : Nat) {q : MethodName × Nat} (h9 : lw_privs_13[i]? = some q) (g : goodWord (Cond.selects q.1.cls q.1 q.1) = true) : Cond.selects q.1.cls q.1 q.1 ∈ xg := by
  have h := List.mem_of_getElem? h9
  exact xg_in (List.mem_append_left _ (List.mem_map.mpr ⟨q, (List.mem_append_right _ (List.mem_append_right _ (List.mem_append_right _ (List.mem_append_right _ (List.mem_append_right _ (List.mem_append_right _ (List.mem_append_right _ (List.mem_append_right _ (List.mem_append_right _ (List.mem_append_right _ (List.mem_append_right _ (List.mem_append_right _ (h))))))))))))), rfl⟩)) g
theorem xsub (ws : List Cond) (ps : List Nat) (hp : ws = ps.filterMap (fun i => lw_tbl[i]?)) (h : ws.all goodWord = true) : ∀ w ∈ ws, w ∈ xg := by
  intro w hw
  have h1 := List.all_eq_true.mp h w hw
  rw [hp] at hw
  obtain ⟨i, -, hi⟩ := List.mem_filterMap.mp hw
  exact xgi i hi h1
theorem xit_X0 : Cond.initialized RX0 ∈ xg := xg1 11 rfl rfl
theorem xit_X1 : Cond.initialized RX1 ∈ xg := xg1 9 rfl rfl
theorem xit_X2 : Cond.initialized RX2 ∈ xg := xg1 7 rfl rfl
theorem xit_X3 : Cond.initialized RX3 ∈ xg := xg1 12 rfl rfl
theorem xit_X4 : Cond.initialized RX4 ∈ xg := xg1 10 rfl rfl
theorem xit_X5 : Cond.initialized RX5 ∈ xg := xg1 8 rfl rfl
theorem xit_X6 : Cond.initialized RX6 ∈ xg := xg1 5 rfl rfl
theorem xit_X7 : Cond.initialized RX7 ∈ xg := xg1 6 rfl rfl
theorem xit_X8 : Cond.initialized RX8 ∈ xg := xg1 13 rfl rfl
theorem xit_X9 : Cond.initialized RX9 ∈ xg := xg1 2 rfl rfl
theorem xit_X10 : Cond.initialized RX10 ∈ xg := xg1 4 rfl rfl
theorem xit_X11 : Cond.initialized RX11 ∈ xg := xg1 1 rfl rfl
theorem xit_X12 : Cond.initialized RX12 ∈ xg := xg1 19 rfl rfl
theorem xit_J9 : Cond.initialized RJ9 ∈ xg := xg1 3 rfl rfl
theorem xit_J0 : Cond.initialized RJ0 ∈ xg := xg1 14 rfl rfl
theorem xit_J1 : Cond.initialized RJ1 ∈ xg := xg1 15 rfl rfl
theorem xit_J2 : Cond.initialized RJ2 ∈ xg := xg1 17 rfl rfl
theorem xit_J10 : Cond.initialized RJ10 ∈ xg := xg1 18 rfl rfl
theorem xit_J3 : Cond.initialized RJ3 ∈ xg := xg1 16 rfl rfl
theorem xit_L : Cond.initialized RL ∈ xg := xg1 0 rfl rfl
set_option maxRecDepth 100000 in
theorem xk_X0 : XCls 0 RX0 TX0 17 tyX0 := ⟨rfl, (List.forall_mem_cons.mpr ⟨xg2 92 rfl rfl, (List.forall_mem_cons.mpr ⟨xg2 94 rfl rfl, (List.forall_mem_cons.mpr ⟨xg2 96 rfl rfl, (List.forall_mem_cons.mpr ⟨xg2 98 rfl rfl, (List.forall_mem_cons.mpr ⟨xg2 100 rfl rfl, (List.forall_mem_cons.mpr ⟨xg2 102 rfl rfl, (List.forall_mem_cons.mpr ⟨xg2 104 rfl rfl, (List.forall_mem_cons.mpr ⟨xg2 106 rfl rfl, (List.forall_mem_cons.mpr ⟨xg2 108 rfl rfl, (List.forall_mem_cons.mpr ⟨xg2 110 rfl rfl, (List.forall_mem_cons.mpr ⟨xg2 112 rfl rfl, (List.forall_mem_cons.mpr ⟨xg2 114 rfl rfl, (List.forall_mem_cons.mpr ⟨xg2 116 rfl rfl, (List.forall_mem_cons.mpr ⟨xg2 118 rfl rfl, (List.forall_mem_cons.mpr ⟨xg2 120 rfl rfl, (List.forall_mem_cons.mpr ⟨xg2 122 rfl rfl, (List.forall_mem_cons.mpr ⟨xg2 124 rfl rfl, (fun _ h9 => absurd h9 List.not_mem_nil)⟩)⟩)⟩)⟩)⟩)⟩)⟩)⟩)⟩)⟩)⟩)⟩)⟩)⟩)⟩)⟩)⟩), tyX0_ok, nmX0⟩
theorem xin_X0 : Cond.instantiable RX0 17 ∈ xg := xg2 66 rfl rfl
set_option maxRecDepth 100000 in
theorem xk_X1 : XCls 1 RX1 TX1 12 tyX1 := ⟨rfl, (List.forall_mem_cons.mpr ⟨xg2 1 rfl rfl, (List.forall_mem_cons.mpr ⟨xg2 3 rfl rfl, (List.forall_mem_cons.mpr ⟨xg2 5 rfl rfl, (List.forall_mem_cons.mpr ⟨xg2 7 rfl rfl, (List.forall_mem_cons.mpr ⟨xg2 9 rfl rfl, (List.forall_mem_cons.mpr ⟨xg2 11 rfl rfl, (List.forall_mem_cons.mpr ⟨xg2 13 rfl rfl, (List.forall_mem_cons.mpr ⟨xg2 15 rfl rfl, (List.forall_mem_cons.mpr ⟨xg2 17 rfl rfl, (List.forall_mem_cons.mpr ⟨xg2 19 rfl rfl, (List.forall_mem_cons.mpr ⟨xg2 21 rfl rfl, (List.forall_mem_cons.mpr ⟨xg2 23 rfl rfl, (fun _ h9 => absurd h9 List.not_mem_nil)⟩)⟩)⟩)⟩)⟩)⟩)⟩)⟩)⟩)⟩)⟩)⟩), tyX1_ok, nmX1⟩
theorem xin_X1 : Cond.instantiable RX1 12 ∈ xg := xg1 218 rfl rfl
set_option maxRecDepth 100000 in
theorem xk_X2 : XCls 2 RX2 TX2 7 tyX2 := ⟨rfl, (List.forall_mem_cons.mpr ⟨xg1 166 rfl rfl, (List.forall_mem_cons.mpr ⟨xg1 168 rfl rfl, (List.forall_mem_cons.mpr ⟨xg1 170 rfl rfl, (List.forall_mem_cons.mpr ⟨xg1 172 rfl rfl, (List.forall_mem_cons.mpr ⟨xg1 174 rfl rfl, (List.forall_mem_cons.mpr ⟨xg1 176 rfl rfl, (List.forall_mem_cons.mpr ⟨xg1 178 rfl rfl, (fun _ h9 => absurd h9 List.not_mem_nil)⟩)⟩)⟩)⟩)⟩)⟩)⟩), tyX2_ok, nmX2⟩
theorem xin_X2 : Cond.instantiable RX2 7 ∈ xg := xg1 151 rfl rfl
set_option maxRecDepth 100000 in
theorem xk_X3 : XCls 3 RX3 TX3 5 tyX3 := ⟨rfl, (List.forall_mem_cons.mpr ⟨xg2 142 rfl rfl, (List.forall_mem_cons.mpr ⟨xg2 144 rfl rfl, (List.forall_mem_cons.mpr ⟨xg2 146 rfl rfl, (List.forall_mem_cons.mpr ⟨xg2 148 rfl rfl, (List.forall_mem_cons.mpr ⟨xg2 150 rfl rfl, (fun _ h9 => absurd h9 List.not_mem_nil)⟩)⟩)⟩)⟩)⟩), tyX3_ok, nmX3⟩
theorem xin_X3 : Cond.instantiable RX3 5 ∈ xg := xg2 128 rfl rfl
set_option maxRecDepth 100000 in
theorem xk_X4 : XCls 4 RX4 TX4 9 tyX4 := ⟨rfl, (List.forall_mem_cons.mpr ⟨xg2 46 rfl rfl, (List.forall_mem_cons.mpr ⟨xg2 48 rfl rfl, (List.forall_mem_cons.mpr ⟨xg2 50 rfl rfl, (List.forall_mem_cons.mpr ⟨xg2 52 rfl rfl, (List.forall_mem_cons.mpr ⟨xg2 54 rfl rfl, (List.forall_mem_cons.mpr ⟨xg2 56 rfl rfl, (List.forall_mem_cons.mpr ⟨xg2 58 rfl rfl, (List.forall_mem_cons.mpr ⟨xg2 60 rfl rfl, (List.forall_mem_cons.mpr ⟨xg2 62 rfl rfl, (fun _ h9 => absurd h9 List.not_mem_nil)⟩)⟩)⟩)⟩)⟩)⟩)⟩)⟩)⟩), tyX4_ok, nmX4⟩
theorem xin_X4 : Cond.instantiable RX4 9 ∈ xg := xg2 27 rfl rfl
set_option maxRecDepth 100000 in
theorem xk_X5 : XCls 5 RX5 TX5 8 tyX5 := ⟨rfl, (List.forall_mem_cons.mpr ⟨xg1 200 rfl rfl, (List.forall_mem_cons.mpr ⟨xg1 202 rfl rfl, (List.forall_mem_cons.mpr ⟨xg1 204 rfl rfl, (List.forall_mem_cons.mpr ⟨xg1 206 rfl rfl, (List.forall_mem_cons.mpr ⟨xg1 208 rfl rfl, (List.forall_mem_cons.mpr ⟨xg1 210 rfl rfl, (List.forall_mem_cons.mpr ⟨xg1 212 rfl rfl, (List.forall_mem_cons.mpr ⟨xg1 214 rfl rfl, (fun _ h9 => absurd h9 List.not_mem_nil)⟩)⟩)⟩)⟩)⟩)⟩)⟩)⟩), tyX5_ok, nmX5⟩
theorem xin_X5 : Cond.instantiable RX5 8 ∈ xg := xg1 183 rfl rfl
set_option maxRecDepth 100000 in
theorem xk_X6 : XCls 6 RX6 TX6 10 tyX6 := ⟨rfl, (List.forall_mem_cons.mpr ⟨xg1 108 rfl rfl, (List.forall_mem_cons.mpr ⟨xg1 110 rfl rfl, (List.forall_mem_cons.mpr ⟨xg1 112 rfl rfl, (List.forall_mem_cons.mpr ⟨xg1 114 rfl rfl, (List.forall_mem_cons.mpr ⟨xg1 116 rfl rfl, (List.forall_mem_cons.mpr ⟨xg1 118 rfl rfl, (List.forall_mem_cons.mpr ⟨xg1 120 rfl rfl, (List.forall_mem_cons.mpr ⟨xg1 122 rfl rfl, (List.forall_mem_cons.mpr ⟨xg1 124 rfl rfl, (List.forall_mem_cons.mpr ⟨xg1 126 rfl rfl, (fun _ h9 => absurd h9 List.not_mem_nil)⟩)⟩)⟩)⟩)⟩)⟩)⟩)⟩)⟩)⟩), tyX6_ok, nmX6⟩
theorem xin_X6 : Cond.instantiable RX6 10 ∈ xg := xg1 89 rfl rfl
set_option maxRecDepth 100000 in
theorem xk_X7 : XCls 7 RX7 TX7 4 tyX7 := ⟨rfl, (List.forall_mem_cons.mpr ⟨xg1 141 rfl rfl, (List.forall_mem_cons.mpr ⟨xg1 143 rfl rfl, (List.forall_mem_cons.mpr ⟨xg1 145 rfl rfl, (List.forall_mem_cons.mpr ⟨xg1 147 rfl rfl, (fun _ h9 => absurd h9 List.not_mem_nil)⟩)⟩)⟩)⟩), tyX7_ok, nmX7⟩
theorem xin_X7 : Cond.instantiable RX7 4 ∈ xg := xg1 130 rfl rfl
set_option maxRecDepth 100000 in
theorem xk_X9 : XCls 8 RX9 TX9 2 tyX9 := ⟨rfl, (List.forall_mem_cons.mpr ⟨xg1 45 rfl rfl, (List.forall_mem_cons.mpr ⟨xg1 47 rfl rfl, (fun _ h9 => absurd h9 List.not_mem_nil)⟩)⟩), tyX9_ok, nmX9⟩
theorem xin_X9 : Cond.instantiable RX9 2 ∈ xg := xg1 35 rfl rfl
set_option maxRecDepth 100000 in
theorem xk_X10 : XCls 9 RX10 TX10 9 tyX10 := ⟨rfl, (List.forall_mem_cons.mpr ⟨xg1 68 rfl rfl, (List.forall_mem_cons.mpr ⟨xg1 70 rfl rfl, (List.forall_mem_cons.mpr ⟨xg1 72 rfl rfl, (List.forall_mem_cons.mpr ⟨xg1 74 rfl rfl, (List.forall_mem_cons.mpr ⟨xg1 76 rfl rfl, (List.forall_mem_cons.mpr ⟨xg1 78 rfl rfl, (List.forall_mem_cons.mpr ⟨xg1 80 rfl rfl, (List.forall_mem_cons.mpr ⟨xg1 82 rfl rfl, (List.forall_mem_cons.mpr ⟨xg1 84 rfl rfl, (fun _ h9 => absurd h9 List.not_mem_nil)⟩)⟩)⟩)⟩)⟩)⟩)⟩)⟩)⟩), tyX10_ok, nmX10⟩
theorem xin_X10 : Cond.instantiable RX10 9 ∈ xg := xg1 54 rfl rfl
set_option maxRecDepth 100000 in
theorem xk_X11 : XCls 10 RX11 TX11 16 tyX11 := ⟨rfl, (List.forall_mem_cons.mpr ⟨xg3 220 rfl rfl, (List.forall_mem_cons.mpr ⟨xg3 222 rfl rfl, (List.forall_mem_cons.mpr ⟨xg3 224 rfl rfl, (List.forall_mem_cons.mpr ⟨xg3 226 rfl rfl, (List.forall_mem_cons.mpr ⟨xg3 228 rfl rfl, (List.forall_mem_cons.mpr ⟨xg3 230 rfl rfl, (List.forall_mem_cons.mpr ⟨xg3 232 rfl rfl, (List.forall_mem_cons.mpr ⟨xg3 234 rfl rfl, (List.forall_mem_cons.mpr ⟨xg3 236 rfl rfl, (List.forall_mem_cons.mpr ⟨xg3 238 rfl rfl, (List.forall_mem_cons.mpr ⟨xg4 0 rfl rfl, (List.forall_mem_cons.mpr ⟨xg4 2 rfl rfl, (List.forall_mem_cons.mpr ⟨xg4 4 rfl rfl, (List.forall_mem_cons.mpr ⟨xg4 6 rfl rfl, (List.forall_mem_cons.mpr ⟨xg4 8 rfl rfl, (List.forall_mem_cons.mpr ⟨xg4 10 rfl rfl, (fun _ h9 => absurd h9 List.not_mem_nil)⟩)⟩)⟩)⟩)⟩)⟩)⟩)⟩)⟩)⟩)⟩)⟩)⟩)⟩)⟩)⟩), tyX11_ok, nmX11⟩
theorem xin_X11 : Cond.instantiable RX11 16 ∈ xg := xg1 27 rfl rfl
set_option maxRecDepth 100000 in
theorem xk_X12 : XCls 11 RX12 TX12 86 tyX12 := ⟨rfl, (List.forall_mem_cons.mpr ⟨xg10 51 rfl rfl, (List.forall_mem_cons.mpr ⟨xg10 53 rfl rfl, (List.forall_mem_cons.mpr ⟨xg10 55 rfl rfl, (List.forall_mem_cons.mpr ⟨xg10 57 rfl rfl, (List.forall_mem_cons.mpr ⟨xg10 59 rfl rfl, (List.forall_mem_cons.mpr ⟨xg10 61 rfl rfl, (List.forall_mem_cons.mpr ⟨xg10 63 rfl rfl, (List.forall_mem_cons.mpr ⟨xg10 65 rfl rfl, (List.forall_mem_cons.mpr ⟨xg10 67 rfl rfl, (List.forall_mem_cons.mpr ⟨xg10 69 rfl rfl, (List.forall_mem_cons.mpr ⟨xg10 71 rfl rfl, (List.forall_mem_cons.mpr ⟨xg10 73 rfl rfl, (List.forall_mem_cons.mpr ⟨xg10 75 rfl rfl, (List.forall_mem_cons.mpr ⟨xg10 77 rfl rfl, (List.forall_mem_cons.mpr ⟨xg10 79 rfl rfl, (List.forall_mem_cons.mpr ⟨xg10 81 rfl rfl, (List.forall_mem_cons.mpr ⟨xg10 83 rfl rfl, (List.forall_mem_cons.mpr ⟨xg10 85 rfl rfl, (List.forall_mem_cons.mpr ⟨xg10 87 rfl rfl, (List.forall_mem_cons.mpr ⟨xg10 89 rfl rfl, (List.forall_mem_cons.mpr ⟨xg10 91 rfl rfl, (List.forall_mem_cons.mpr ⟨xg10 93 rfl rfl, (List.forall_mem_cons.mpr ⟨xg10 95 rfl rfl, (List.forall_mem_cons.mpr ⟨xg10 97 rfl rfl, (List.forall_mem_cons.mpr ⟨xg10 99 rfl rfl, (List.forall_mem_cons.mpr ⟨xg10 101 rfl rfl, (List.forall_mem_cons.mpr ⟨xg10 103 rfl rfl, (List.forall_mem_cons.mpr ⟨xg10 105 rfl rfl, (List.forall_mem_cons.mpr ⟨xg10 107 rfl rfl, (List.forall_mem_cons.mpr ⟨xg10 109 rfl rfl, (List.forall_mem_cons.mpr ⟨xg10 111 rfl rfl, (List.forall_mem_cons.mpr ⟨xg10 113 rfl rfl, (List.forall_mem_cons.mpr ⟨xg10 115 rfl rfl, (List.forall_mem_cons.mpr ⟨xg10 117 rfl rfl, (List.forall_mem_cons.mpr ⟨xg10 119 rfl rfl, (List.forall_mem_cons.mpr ⟨xg10 121 rfl rfl, (List.forall_mem_cons.mpr ⟨xg10 123 rfl rfl, (List.forall_mem_cons.mpr ⟨xg10 125 rfl rfl, (List.forall_mem_cons.mpr ⟨xg10 127 rfl rfl, (List.forall_mem_cons.mpr ⟨xg10 129 rfl rfl, (List.forall_mem_cons.mpr ⟨xg10 131 rfl rfl, (List.forall_mem_cons.mpr ⟨xg10 133 rfl rfl, (List.forall_mem_cons.mpr ⟨xg10 135 rfl rfl, (List.forall_mem_cons.mpr ⟨xg10 137 rfl rfl, (List.forall_mem_cons.mpr ⟨xg10 139 rfl rfl, (List.forall_mem_cons.mpr ⟨xg10 141 rfl rfl, (List.forall_mem_cons.mpr ⟨xg10 143 rfl rfl, (List.forall_mem_cons.mpr ⟨xg10 145 rfl rfl, (List.forall_mem_cons.mpr ⟨xg10 147 rfl rfl, (List.forall_mem_cons.mpr ⟨xg10 149 rfl rfl, (List.forall_mem_cons.mpr ⟨xg10 151 rfl rfl, (List.forall_mem_cons.mpr ⟨xg10 153 rfl rfl, (List.forall_mem_cons.mpr ⟨xg10 155 rfl rfl, (List.forall_mem_cons.mpr ⟨xg10 157 rfl rfl, (List.forall_mem_cons.mpr ⟨xg10 159 rfl rfl, (List.forall_mem_cons.mpr ⟨xg10 161 rfl rfl, (List.forall_mem_cons.mpr ⟨xg10 163 rfl rfl, (List.forall_mem_cons.mpr ⟨xg10 165 rfl rfl, (List.forall_mem_cons.mpr ⟨xg10 167 rfl rfl, (List.forall_mem_cons.mpr ⟨xg10 169 rfl rfl, (List.forall_mem_cons.mpr ⟨xg10 171 rfl rfl, (List.forall_mem_cons.mpr ⟨xg10 173 rfl rfl, (List.forall_mem_cons.mpr ⟨xg10 175 rfl rfl, (List.forall_mem_cons.mpr ⟨xg10 177 rfl rfl, (List.forall_mem_cons.mpr ⟨xg10 179 rfl rfl, (List.forall_mem_cons.mpr ⟨xg10 181 rfl rfl, (List.forall_mem_cons.mpr ⟨xg10 183 rfl rfl, (List.forall_mem_cons.mpr ⟨xg10 185 rfl rfl, (List.forall_mem_cons.mpr ⟨xg10 187 rfl rfl, (List.forall_mem_cons.mpr ⟨xg10 189 rfl rfl, (List.forall_mem_cons.mpr ⟨xg10 191 rfl rfl, (List.forall_mem_cons.mpr ⟨xg10 193 rfl rfl, (List.forall_mem_cons.mpr ⟨xg10 195 rfl rfl, (List.forall_mem_cons.mpr ⟨xg10 197 rfl rfl, (List.forall_mem_cons.mpr ⟨xg10 199 rfl rfl, (List.forall_mem_cons.mpr ⟨xg10 201 rfl rfl, (List.forall_mem_cons.mpr ⟨xg10 203 rfl rfl, (List.forall_mem_cons.mpr ⟨xg10 205 rfl rfl, (List.forall_mem_cons.mpr ⟨xg10 207 rfl rfl, (List.forall_mem_cons.mpr ⟨xg10 209 rfl rfl, (List.forall_mem_cons.mpr ⟨xg10 211 rfl rfl, (List.forall_mem_cons.mpr ⟨xg10 213 rfl rfl, (List.forall_mem_cons.mpr ⟨xg10 215 rfl rfl, (List.forall_mem_cons.mpr ⟨xg10 217 rfl rfl, (List.forall_mem_cons.mpr ⟨xg10 219 rfl rfl, (List.forall_mem_cons.mpr ⟨xg10 221 rfl rfl, (fun _ h9 => absurd h9 List.not_mem_nil)⟩)⟩)⟩)⟩)⟩)⟩)⟩)⟩)⟩)⟩)⟩)⟩)⟩)⟩)⟩)⟩)⟩)⟩)⟩)⟩)⟩)⟩)⟩)⟩)⟩)⟩)⟩)⟩)⟩)⟩)⟩)⟩)⟩)⟩)⟩)⟩)⟩)⟩)⟩)⟩)⟩)⟩)⟩)⟩)⟩)⟩)⟩)⟩)⟩)⟩)⟩)⟩)⟩)⟩)⟩)⟩)⟩)⟩)⟩)⟩)⟩)⟩)⟩)⟩)⟩)⟩)⟩)⟩)⟩)⟩)⟩)⟩)⟩)⟩)⟩)⟩)⟩)⟩)⟩)⟩)⟩)⟩)⟩)⟩)⟩)⟩), tyX12_ok, nmX12⟩
theorem xin_X12 : Cond.instantiable RX12 86 ∈ xg := xg8 207 rfl rfl
theorem xcd_X0_init : Cond.code yX0_init cX0_init 1 none ∈ xg := xg2 69 rfl rfl
theorem xim_X0_init : Cond.instanceMethod yX0_init ∈ xg := xg2 68 rfl rfl
theorem xcd_X0_count : Cond.code yX0_count cX0_count 1 (some .int) ∈ xg := xg8 50 rfl rfl
theorem xim_X0_count : Cond.instanceMethod yX0_count ∈ xg := xg8 48 rfl rfl
theorem xse_X0_count : Cond.selects RX0 yX0_count yX0_count ∈ xg := xg8 49 rfl rfl
theorem xcd_X0_nodeAt : Cond.code yX0_nodeAt cX0_nodeAt 2 (some .int) ∈ xg := xg8 61 rfl rfl
theorem xim_X0_nodeAt : Cond.instanceMethod yX0_nodeAt ∈ xg := xg8 59 rfl rfl
theorem xse_X0_nodeAt : Cond.selects RX0 yX0_nodeAt yX0_nodeAt ∈ xg := xg8 60 rfl rfl
theorem xcd_X0_wordAt : Cond.code yX0_wordAt cX0_wordAt 2 (some .int) ∈ xg := xg8 65 rfl rfl
theorem xim_X0_wordAt : Cond.instanceMethod yX0_wordAt ∈ xg := xg8 63 rfl rfl
theorem xse_X0_wordAt : Cond.selects RX0 yX0_wordAt yX0_wordAt ∈ xg := xg8 64 rfl rfl
theorem xcd_X0_agrees : Cond.code yX0_agrees cX0_agrees 3 (some .boolean) ∈ xg := xg7 166 rfl rfl
theorem xim_X0_agrees : Cond.instanceMethod yX0_agrees ∈ xg := xg7 164 rfl rfl
theorem xse_X0_agrees : Cond.selects RX0 yX0_agrees yX0_agrees ∈ xg := xg7 165 rfl rfl
theorem xcd_X0_examine : Cond.code yX0_examine cX0_examine 4 (some .boolean) ∈ xg := xg8 46 rfl rfl
theorem xim_X0_examine : Cond.instanceMethod yX0_examine ∈ xg := xg8 44 rfl rfl
theorem xse_X0_examine : Cond.selects RX0 yX0_examine yX0_examine ∈ xg := xg8 45 rfl rfl
theorem xcd_X0_begin : Cond.code yX0_begin cX0_begin 4 none ∈ xg := xg7 171 rfl rfl
theorem xim_X0_begin : Cond.instanceMethod yX0_begin ∈ xg := xg7 170 rfl rfl
theorem xse_X0_begin : Cond.selects RX0 yX0_begin yX0_begin ∈ xg := xp5 0 (q := (⟨"Treeletter$Checker", "begin", "(LTreeletter$Tree;LTreeletter$Tree;I)V"⟩, 17)) rfl rfl
theorem xcd_X0_complain : Cond.code yX0_complain cX0_complain 4 none ∈ xg := xg7 181 rfl rfl
theorem xim_X0_complain : Cond.instanceMethod yX0_complain ∈ xg := xg7 180 rfl rfl
theorem xse_X0_complain : Cond.selects RX0 yX0_complain yX0_complain ∈ xg := xp5 2 (q := (⟨"Treeletter$Checker", "complain", "(IIZ)V"⟩, 17)) rfl rfl
theorem xcd_X0_wordOf : Cond.code yX0_wordOf cX0_wordOf 1 (some (.object "java/lang/String")) ∈ xg := xg7 184 rfl rfl
theorem xst_X0_wordOf : Cond.static yX0_wordOf ∈ xg := xg7 183 rfl rfl
theorem xcd_X0_kindOf : Cond.code yX0_kindOf cX0_kindOf 1 (some (.object "java/lang/String")) ∈ xg := xg7 228 rfl rfl
theorem xst_X0_kindOf : Cond.static yX0_kindOf ∈ xg := xg7 227 rfl rfl
theorem xcd_X0_ask : Cond.code yX0_ask cX0_ask 14 (some .boolean) ∈ xg := xg7 175 rfl rfl
theorem xim_X0_ask : Cond.instanceMethod yX0_ask ∈ xg := xg7 174 rfl rfl
theorem xse_X0_ask : Cond.selects RX0 yX0_ask yX0_ask ∈ xg := xp5 1 (q := (⟨"Treeletter$Checker", "ask", "(IIZI)Z"⟩, 17)) rfl rfl
theorem xcd_X0_firstQuestion : Cond.code yX0_firstQuestion cX0_firstQuestion 4 (some .int) ∈ xg := xg8 13 rfl rfl
theorem xim_X0_firstQuestion : Cond.instanceMethod yX0_firstQuestion ∈ xg := xg8 12 rfl rfl
theorem xse_X0_firstQuestion : Cond.selects RX0 yX0_firstQuestion yX0_firstQuestion ∈ xg := xp5 9 (q := (⟨"Treeletter$Checker", "firstQuestion", "(III)I"⟩, 17)) rfl rfl
theorem xcd_X0_nextQuestion : Cond.code yX0_nextQuestion cX0_nextQuestion 5 (some .int) ∈ xg := xg8 36 rfl rfl
theorem xim_X0_nextQuestion : Cond.instanceMethod yX0_nextQuestion ∈ xg := xg8 35 rfl rfl
theorem xse_X0_nextQuestion : Cond.selects RX0 yX0_nextQuestion yX0_nextQuestion ∈ xg := xp5 14 (q := (⟨"Treeletter$Checker", "nextQuestion", "(IIII)I"⟩, 17)) rfl rfl
theorem xcd_X0_schemaOf : Cond.code yX0_schemaOf cX0_schemaOf 5 (some .int) ∈ xg := xg8 23 rfl rfl
theorem xim_X0_schemaOf : Cond.instanceMethod yX0_schemaOf ∈ xg := xg8 22 rfl rfl
theorem xse_X0_schemaOf : Cond.selects RX0 yX0_schemaOf yX0_schemaOf ∈ xg := xp5 11 (q := (⟨"Treeletter$Checker", "schemaOf", "(IIII)I"⟩, 17)) rfl rfl
theorem xcd_X0_holds : Cond.code yX0_holds cX0_holds 4 (some .boolean) ∈ xg := xg8 39 rfl rfl
theorem xst_X0_holds : Cond.static yX0_holds ∈ xg := xg8 38 rfl rfl
theorem xcd_X0_holdsItself : Cond.code yX0_holdsItself cX0_holdsItself 4 (some .boolean) ∈ xg := xg8 42 rfl rfl
theorem xst_X0_holdsItself : Cond.static yX0_holdsItself ∈ xg := xg8 41 rfl rfl
theorem xcd_X0_target : Cond.code yX0_target cX0_target 5 (some .int) ∈ xg := xg8 18 rfl rfl
theorem xim_X0_target : Cond.instanceMethod yX0_target ∈ xg := xg8 17 rfl rfl
theorem xse_X0_target : Cond.selects RX0 yX0_target yX0_target ∈ xg := xp5 10 (q := (⟨"Treeletter$Checker", "target", "(II)I"⟩, 17)) rfl rfl
theorem xcd_X0_openRef : Cond.code yX0_openRef cX0_openRef 4 none ∈ xg := xg8 28 rfl rfl
theorem xim_X0_openRef : Cond.instanceMethod yX0_openRef ∈ xg := xg8 27 rfl rfl
theorem xse_X0_openRef : Cond.selects RX0 yX0_openRef yX0_openRef ∈ xg := xp5 12 (q := (⟨"Treeletter$Checker", "openRef", "(III)V"⟩, 17)) rfl rfl
theorem xcd_X0_closeRef : Cond.code yX0_closeRef cX0_closeRef 2 none ∈ xg := xg8 32 rfl rfl
theorem xim_X0_closeRef : Cond.instanceMethod yX0_closeRef ∈ xg := xg8 31 rfl rfl
theorem xse_X0_closeRef : Cond.selects RX0 yX0_closeRef yX0_closeRef ∈ xg := xp5 13 (q := (⟨"Treeletter$Checker", "closeRef", "(I)V"⟩, 17)) rfl rfl
theorem xcd_X0_plainly : Cond.code yX0_plainly cX0_plainly 6 (some .boolean) ∈ xg := xg7 204 rfl rfl
theorem xim_X0_plainly : Cond.instanceMethod yX0_plainly ∈ xg := xg7 203 rfl rfl
theorem xse_X0_plainly : Cond.selects RX0 yX0_plainly yX0_plainly ∈ xg := xp5 3 (q := (⟨"Treeletter$Checker", "plainly", "(IIIZ)Z"⟩, 17)) rfl rfl
theorem xcd_X0_hasAll : Cond.code yX0_hasAll cX0_hasAll 7 (some .boolean) ∈ xg := xg7 208 rfl rfl
theorem xim_X0_hasAll : Cond.instanceMethod yX0_hasAll ∈ xg := xg7 207 rfl rfl
theorem xse_X0_hasAll : Cond.selects RX0 yX0_hasAll yX0_hasAll ∈ xg := xp5 4 (q := (⟨"Treeletter$Checker", "hasAll", "(IIZ)Z"⟩, 17)) rfl rfl
theorem xcd_X0_isOfKinds : Cond.code yX0_isOfKinds cX0_isOfKinds 6 (some .boolean) ∈ xg := xg7 217 rfl rfl
theorem xim_X0_isOfKinds : Cond.instanceMethod yX0_isOfKinds ∈ xg := xg7 216 rfl rfl
theorem xse_X0_isOfKinds : Cond.selects RX0 yX0_isOfKinds yX0_isOfKinds ∈ xg := xp5 5 (q := (⟨"Treeletter$Checker", "isOfKinds", "(II)Z"⟩, 17)) rfl rfl
theorem xcd_X0_isOfKind : Cond.code yX0_isOfKind cX0_isOfKind 3 (some .boolean) ∈ xg := xg7 221 rfl rfl
theorem xim_X0_isOfKind : Cond.instanceMethod yX0_isOfKind ∈ xg := xg7 220 rfl rfl
theorem xse_X0_isOfKind : Cond.selects RX0 yX0_isOfKind yX0_isOfKind ∈ xg := xp5 6 (q := (⟨"Treeletter$Checker", "isOfKind", "(II)Z"⟩, 17)) rfl rfl
theorem xcd_X0_orderOfLength : Cond.code yX0_orderOfLength cX0_orderOfLength 3 (some .int) ∈ xg := xg8 0 rfl rfl
theorem xim_X0_orderOfLength : Cond.instanceMethod yX0_orderOfLength ∈ xg := xg7 239 rfl rfl
theorem xse_X0_orderOfLength : Cond.selects RX0 yX0_orderOfLength yX0_orderOfLength ∈ xg := xp5 7 (q := (⟨"Treeletter$Checker", "orderOfLength", "(II)I"⟩, 17)) rfl rfl
theorem xcd_X0_isOneOf : Cond.code yX0_isOneOf cX0_isOneOf 6 (some .boolean) ∈ xg := xg8 8 rfl rfl
theorem xim_X0_isOneOf : Cond.instanceMethod yX0_isOneOf ∈ xg := xg8 7 rfl rfl
theorem xse_X0_isOneOf : Cond.selects RX0 yX0_isOneOf yX0_isOneOf ∈ xg := xp5 8 (q := (⟨"Treeletter$Checker", "isOneOf", "(II)Z"⟩, 17)) rfl rfl
theorem xcd_X1_init : Cond.code yX1_init cX1_init 1 none ∈ xg := xg1 221 rfl rfl
theorem xim_X1_init : Cond.instanceMethod yX1_init ∈ xg := xg1 220 rfl rfl
theorem xcd_X1_result : Cond.code yX1_result cX1_result 1 (some (.object "Treeletter$Tree")) ∈ xg := xg6 163 rfl rfl
theorem xim_X1_result : Cond.instanceMethod yX1_result ∈ xg := xg6 161 rfl rfl
theorem xse_X1_result : Cond.selects RX1 yX1_result yX1_result ∈ xg := xg6 162 rfl rfl
theorem xcd_X1_wayBack : Cond.code yX1_wayBack cX1_wayBack 1 (some (.object "Treeletter$Tree")) ∈ xg := xg7 76 rfl rfl
theorem xim_X1_wayBack : Cond.instanceMethod yX1_wayBack ∈ xg := xg7 74 rfl rfl
theorem xse_X1_wayBack : Cond.selects RX1 yX1_wayBack yX1_wayBack ∈ xg := xg7 75 rfl rfl
theorem xcd_X1_begin : Cond.code yX1_begin cX1_begin 3 none ∈ xg := xg6 81 rfl rfl
theorem xim_X1_begin : Cond.instanceMethod yX1_begin ∈ xg := xg6 79 rfl rfl
theorem xse_X1_begin : Cond.selects RX1 yX1_begin yX1_begin ∈ xg := xg6 80 rfl rfl
theorem xcd_X1_putIn : Cond.code yX1_putIn cX1_putIn 4 (some .boolean) ∈ xg := xg6 88 rfl rfl
theorem xim_X1_putIn : Cond.instanceMethod yX1_putIn ∈ xg := xg6 86 rfl rfl
theorem xse_X1_putIn : Cond.selects RX1 yX1_putIn yX1_putIn ∈ xg := xg6 87 rfl rfl
theorem xcd_X1_aimedPathTo : Cond.code yX1_aimedPathTo cX1_aimedPathTo 2 none ∈ xg := xg6 149 rfl rfl
theorem xim_X1_aimedPathTo : Cond.instanceMethod yX1_aimedPathTo ∈ xg := xg6 148 rfl rfl
theorem xse_X1_aimedPathTo : Cond.selects RX1 yX1_aimedPathTo yX1_aimedPathTo ∈ xg := xp3 12 (q := (⟨"Treeletter$Editor", "aimedPathTo", "(LTreeletter$Route;)V"⟩, 12)) rfl rfl
theorem xcd_X1_aim : Cond.code yX1_aim cX1_aim 3 (some .boolean) ∈ xg := xg6 102 rfl rfl
theorem xim_X1_aim : Cond.instanceMethod yX1_aim ∈ xg := xg6 101 rfl rfl
theorem xse_X1_aim : Cond.selects RX1 yX1_aim yX1_aim ∈ xg := xp3 10 (q := (⟨"Treeletter$Editor", "aim", "(LTreeletter$Route;)Z"⟩, 12)) rfl rfl
theorem xcd_X1_cutOut : Cond.code yX1_cutOut cX1_cutOut 3 (some .boolean) ∈ xg := xg6 178 rfl rfl
theorem xim_X1_cutOut : Cond.instanceMethod yX1_cutOut ∈ xg := xg6 176 rfl rfl
theorem xse_X1_cutOut : Cond.selects RX1 yX1_cutOut yX1_cutOut ∈ xg := xg6 177 rfl rfl
theorem xcd_X1_record : Cond.code yX1_record cX1_record 4 none ∈ xg := xg6 121 rfl rfl
theorem xim_X1_record : Cond.instanceMethod yX1_record ∈ xg := xg6 120 rfl rfl
theorem xse_X1_record : Cond.selects RX1 yX1_record yX1_record ∈ xg := xp3 11 (q := (⟨"Treeletter$Editor", "record", "(Ljava/lang/String;LTreeletter$Tree;I)V"⟩, 12)) rfl rfl
theorem xcd_X1_layAll : Cond.code yX1_layAll cX1_layAll 4 (some .int) ∈ xg := xg6 194 rfl rfl
theorem xim_X1_layAll : Cond.instanceMethod yX1_layAll ∈ xg := xg6 192 rfl rfl
theorem xse_X1_layAll : Cond.selects RX1 yX1_layAll yX1_layAll ∈ xg := xg6 193 rfl rfl
theorem xcd_X1_layOne : Cond.code yX1_layOne cX1_layOne 7 (some .boolean) ∈ xg := xg6 199 rfl rfl
theorem xim_X1_layOne : Cond.instanceMethod yX1_layOne ∈ xg := xg6 198 rfl rfl
theorem xse_X1_layOne : Cond.selects RX1 yX1_layOne yX1_layOne ∈ xg := xp3 14 (q := (⟨"Treeletter$Editor", "layOne", "(LTreeletter$Tree;I)Z"⟩, 12)) rfl rfl
theorem xcd_X1_holdAt : Cond.code yX1_holdAt cX1_holdAt 4 (some .boolean) ∈ xg := xg6 226 rfl rfl
theorem xim_X1_holdAt : Cond.instanceMethod yX1_holdAt ∈ xg := xg6 225 rfl rfl
theorem xse_X1_holdAt : Cond.selects RX1 yX1_holdAt yX1_holdAt ∈ xg := xp4 0 (q := (⟨"Treeletter$Editor", "holdAt", "(LTreeletter$Tree;I)Z"⟩, 12)) rfl rfl
theorem xcd_X1_exchange : Cond.code yX1_exchange cX1_exchange 4 (some .boolean) ∈ xg := xg6 232 rfl rfl
theorem xim_X1_exchange : Cond.instanceMethod yX1_exchange ∈ xg := xg6 231 rfl rfl
theorem xse_X1_exchange : Cond.selects RX1 yX1_exchange yX1_exchange ∈ xg := xp4 1 (q := (⟨"Treeletter$Editor", "exchange", "(LTreeletter$Tree;I)Z"⟩, 12)) rfl rfl
theorem xcd_X1_isThere : Cond.code yX1_isThere cX1_isThere 4 (some .boolean) ∈ xg := xg6 237 rfl rfl
theorem xim_X1_isThere : Cond.instanceMethod yX1_isThere ∈ xg := xg6 236 rfl rfl
theorem xse_X1_isThere : Cond.selects RX1 yX1_isThere yX1_isThere ∈ xg := xp4 2 (q := (⟨"Treeletter$Editor", "isThere", "(LTreeletter$Tree;I)Z"⟩, 12)) rfl rfl
theorem xcd_X2_init : Cond.code yX2_init cX2_init 1 none ∈ xg := xg1 154 rfl rfl
theorem xim_X2_init : Cond.instanceMethod yX2_init ∈ xg := xg1 153 rfl rfl
theorem xcd_X2_count : Cond.code yX2_count cX2_count 1 (some .int) ∈ xg := xg6 59 rfl rfl
theorem xim_X2_count : Cond.instanceMethod yX2_count ∈ xg := xg6 57 rfl rfl
theorem xse_X2_count : Cond.selects RX2 yX2_count yX2_count ∈ xg := xg6 58 rfl rfl
theorem xcd_X2_at : Cond.code yX2_at cX2_at 2 (some .int) ∈ xg := xg6 70 rfl rfl
theorem xim_X2_at : Cond.instanceMethod yX2_at ∈ xg := xg6 68 rfl rfl
theorem xse_X2_at : Cond.selects RX2 yX2_at yX2_at ∈ xg := xg6 69 rfl rfl
theorem xcd_X2_seek : Cond.code yX2_seek cX2_seek 6 none ∈ xg := xg5 230 rfl rfl
theorem xim_X2_seek : Cond.instanceMethod yX2_seek ∈ xg := xg5 228 rfl rfl
theorem xse_X2_seek : Cond.selects RX2 yX2_seek yX2_seek ∈ xg := xg5 229 rfl rfl
theorem xcd_X2_begin : Cond.code yX2_begin cX2_begin 2 none ∈ xg := xg5 234 rfl rfl
theorem xim_X2_begin : Cond.instanceMethod yX2_begin ∈ xg := xg5 233 rfl rfl
theorem xse_X2_begin : Cond.selects RX2 yX2_begin yX2_begin ∈ xg := xp3 4 (q := (⟨"Treeletter$Finder", "begin", "()V"⟩, 7)) rfl rfl
theorem xcd_X2_meet : Cond.code yX2_meet cX2_meet 2 none ∈ xg := xg5 238 rfl rfl
theorem xim_X2_meet : Cond.instanceMethod yX2_meet ∈ xg := xg5 237 rfl rfl
theorem xse_X2_meet : Cond.selects RX2 yX2_meet yX2_meet ∈ xg := xp3 5 (q := (⟨"Treeletter$Finder", "meet", "(I)V"⟩, 7)) rfl rfl
theorem xcd_X2_stepFrom : Cond.code yX2_stepFrom cX2_stepFrom 5 none ∈ xg := xg6 16 rfl rfl
theorem xim_X2_stepFrom : Cond.instanceMethod yX2_stepFrom ∈ xg := xg6 15 rfl rfl
theorem xse_X2_stepFrom : Cond.selects RX2 yX2_stepFrom yX2_stepFrom ∈ xg := xp3 7 (q := (⟨"Treeletter$Finder", "stepFrom", "(LTreeletter$Tree;I)V"⟩, 7)) rfl rfl
theorem xcd_X2_placeIn : Cond.code yX2_placeIn cX2_placeIn 4 (some .int) ∈ xg := xg6 47 rfl rfl
theorem xim_X2_placeIn : Cond.instanceMethod yX2_placeIn ∈ xg := xg6 46 rfl rfl
theorem xse_X2_placeIn : Cond.selects RX2 yX2_placeIn yX2_placeIn ∈ xg := xp3 9 (q := (⟨"Treeletter$Finder", "placeIn", "(LTreeletter$Tree;I)I"⟩, 7)) rfl rfl
theorem xcd_X2_meetMatches : Cond.code yX2_meetMatches cX2_meetMatches 7 none ∈ xg := xg6 30 rfl rfl
theorem xim_X2_meetMatches : Cond.instanceMethod yX2_meetMatches ∈ xg := xg6 29 rfl rfl
theorem xse_X2_meetMatches : Cond.selects RX2 yX2_meetMatches yX2_meetMatches ∈ xg := xp3 8 (q := (⟨"Treeletter$Finder", "meetMatches", "(LTreeletter$Tree;I)V"⟩, 7)) rfl rfl
theorem xcd_X3_init : Cond.code yX3_init cX3_init 1 none ∈ xg := xg2 131 rfl rfl
theorem xim_X3_init : Cond.instanceMethod yX3_init ∈ xg := xg2 130 rfl rfl
theorem xcd_X3_result : Cond.code yX3_result cX3_result 1 (some (.object "Treeletter$Tree")) ∈ xg := xg8 158 rfl rfl
theorem xim_X3_result : Cond.instanceMethod yX3_result ∈ xg := xg8 156 rfl rfl
theorem xse_X3_result : Cond.selects RX3 yX3_result yX3_result ∈ xg := xg8 157 rfl rfl
theorem xcd_X3_begin : Cond.code yX3_begin cX3_begin 2 none ∈ xg := xg8 115 rfl rfl
theorem xim_X3_begin : Cond.instanceMethod yX3_begin ∈ xg := xg8 113 rfl rfl
theorem xse_X3_begin : Cond.selects RX3 yX3_begin yX3_begin ∈ xg := xg8 114 rfl rfl
theorem xcd_X3_draw : Cond.code yX3_draw cX3_draw 2 (some .int) ∈ xg := xg8 124 rfl rfl
theorem xim_X3_draw : Cond.instanceMethod yX3_draw ∈ xg := xg8 122 rfl rfl
theorem xse_X3_draw : Cond.selects RX3 yX3_draw yX3_draw ∈ xg := xg8 123 rfl rfl
theorem xcd_X3_sprout : Cond.code yX3_sprout cX3_sprout 4 (some .int) ∈ xg := xg8 120 rfl rfl
theorem xim_X3_sprout : Cond.instanceMethod yX3_sprout ∈ xg := xg8 119 rfl rfl
theorem xse_X3_sprout : Cond.selects RX3 yX3_sprout yX3_sprout ∈ xg := xp5 15 (q := (⟨"Treeletter$Grower", "sprout", "(II)I"⟩, 5)) rfl rfl
theorem xcd_X3_number : Cond.code yX3_number cX3_number 2 (some .int) ∈ xg := xg8 131 rfl rfl
theorem xim_X3_number : Cond.instanceMethod yX3_number ∈ xg := xg8 130 rfl rfl
theorem xse_X3_number : Cond.selects RX3 yX3_number yX3_number ∈ xg := xp6 0 (q := (⟨"Treeletter$Grower", "number", "()I"⟩, 5)) rfl rfl
theorem xcd_X3_text : Cond.code yX3_text cX3_text 4 (some .int) ∈ xg := xg8 138 rfl rfl
theorem xim_X3_text : Cond.instanceMethod yX3_text ∈ xg := xg8 137 rfl rfl
theorem xse_X3_text : Cond.selects RX3 yX3_text yX3_text ∈ xg := xp6 1 (q := (⟨"Treeletter$Grower", "text", "()I"⟩, 5)) rfl rfl
theorem xcd_X3_group : Cond.code yX3_group cX3_group 7 (some .int) ∈ xg := xg8 143 rfl rfl
theorem xim_X3_group : Cond.instanceMethod yX3_group ∈ xg := xg8 142 rfl rfl
theorem xse_X3_group : Cond.selects RX3 yX3_group yX3_group ∈ xg := xp6 2 (q := (⟨"Treeletter$Grower", "group", "(III)I"⟩, 5)) rfl rfl
theorem xcd_X3_entry : Cond.code yX3_entry cX3_entry 7 none ∈ xg := xg8 148 rfl rfl
theorem xim_X3_entry : Cond.instanceMethod yX3_entry ∈ xg := xg8 147 rfl rfl
theorem xse_X3_entry : Cond.selects RX3 yX3_entry yX3_entry ∈ xg := xp6 3 (q := (⟨"Treeletter$Grower", "entry", "(III)V"⟩, 5)) rfl rfl
theorem xcd_X4_init : Cond.code yX4_init cX4_init 1 none ∈ xg := xg2 30 rfl rfl
theorem xim_X4_init : Cond.instanceMethod yX4_init ∈ xg := xg2 29 rfl rfl
theorem xcd_X4_result : Cond.code yX4_result cX4_result 1 (some (.object "Treeletter$Tree")) ∈ xg := xg7 132 rfl rfl
theorem xim_X4_result : Cond.instanceMethod yX4_result ∈ xg := xg7 130 rfl rfl
theorem xse_X4_result : Cond.selects RX4 yX4_result yX4_result ∈ xg := xg7 131 rfl rfl
theorem xcd_X4_count : Cond.code yX4_count cX4_count 1 (some .int) ∈ xg := xg4 27 rfl rfl
theorem xim_X4_count : Cond.instanceMethod yX4_count ∈ xg := xg4 25 rfl rfl
theorem xse_X4_count : Cond.selects RX4 yX4_count yX4_count ∈ xg := xg4 26 rfl rfl
theorem xcd_X4_forget : Cond.code yX4_forget cX4_forget 1 none ∈ xg := xg7 127 rfl rfl
theorem xim_X4_forget : Cond.instanceMethod yX4_forget ∈ xg := xg7 125 rfl rfl
theorem xse_X4_forget : Cond.selects RX4 yX4_forget yX4_forget ∈ xg := xg7 126 rfl rfl
theorem xcd_X4_endOf : Cond.code yX4_endOf cX4_endOf 2 (some .int) ∈ xg := xg7 148 rfl rfl
theorem xim_X4_endOf : Cond.instanceMethod yX4_endOf ∈ xg := xg7 147 rfl rfl
theorem xse_X4_endOf : Cond.selects RX4 yX4_endOf yX4_endOf ∈ xg := xp4 15 (q := (⟨"Treeletter$Joiner", "endOf", "(I)I"⟩, 9)) rfl rfl
theorem xcd_X4_pathTo : Cond.code yX4_pathTo cX4_pathTo 3 none ∈ xg := xg7 144 rfl rfl
theorem xim_X4_pathTo : Cond.instanceMethod yX4_pathTo ∈ xg := xg7 142 rfl rfl
theorem xse_X4_pathTo : Cond.selects RX4 yX4_pathTo yX4_pathTo ∈ xg := xg7 143 rfl rfl
theorem xcd_X4_unite : Cond.code yX4_unite cX4_unite 4 (some .boolean) ∈ xg := xg7 87 rfl rfl
theorem xim_X4_unite : Cond.instanceMethod yX4_unite ∈ xg := xg7 85 rfl rfl
theorem xse_X4_unite : Cond.selects RX4 yX4_unite yX4_unite ∈ xg := xg7 86 rfl rfl
theorem xcd_X4_alike : Cond.code yX4_alike cX4_alike 4 (some .boolean) ∈ xg := xg7 96 rfl rfl
theorem xst_X4_alike : Cond.static yX4_alike ∈ xg := xg7 95 rfl rfl
theorem xcd_X4_uniteAt : Cond.code yX4_uniteAt cX4_uniteAt 5 none ∈ xg := xg7 93 rfl rfl
theorem xim_X4_uniteAt : Cond.instanceMethod yX4_uniteAt ∈ xg := xg7 92 rfl rfl
theorem xse_X4_uniteAt : Cond.selects RX4 yX4_uniteAt yX4_uniteAt ∈ xg := xp4 11 (q := (⟨"Treeletter$Joiner", "uniteAt", "(IIII)V"⟩, 9)) rfl rfl
theorem xcd_X4_accept : Cond.code yX4_accept cX4_accept 3 none ∈ xg := xg7 101 rfl rfl
theorem xim_X4_accept : Cond.instanceMethod yX4_accept ∈ xg := xg7 100 rfl rfl
theorem xse_X4_accept : Cond.selects RX4 yX4_accept yX4_accept ∈ xg := xp4 12 (q := (⟨"Treeletter$Joiner", "accept", "(LTreeletter$Tree;I)V"⟩, 9)) rfl rfl
theorem xcd_X4_uniteMaps : Cond.code yX4_uniteMaps cX4_uniteMaps 9 none ∈ xg := xg7 107 rfl rfl
theorem xim_X4_uniteMaps : Cond.instanceMethod yX4_uniteMaps ∈ xg := xg7 106 rfl rfl
theorem xse_X4_uniteMaps : Cond.selects RX4 yX4_uniteMaps yX4_uniteMaps ∈ xg := xp4 13 (q := (⟨"Treeletter$Joiner", "uniteMaps", "(IIII)V"⟩, 9)) rfl rfl
theorem xcd_X4_dispute : Cond.code yX4_dispute cX4_dispute 1 none ∈ xg := xg7 123 rfl rfl
theorem xim_X4_dispute : Cond.instanceMethod yX4_dispute ∈ xg := xg7 122 rfl rfl
theorem xse_X4_dispute : Cond.selects RX4 yX4_dispute yX4_dispute ∈ xg := xp4 14 (q := (⟨"Treeletter$Joiner", "dispute", "()V"⟩, 9)) rfl rfl
theorem xcd_X5_init : Cond.code yX5_init cX5_init 1 none ∈ xg := xg1 186 rfl rfl
theorem xim_X5_init : Cond.instanceMethod yX5_init ∈ xg := xg1 185 rfl rfl
theorem xcd_X5_listTo : Cond.code yX5_listTo cX5_listTo 5 none ∈ xg := xg7 10 rfl rfl
theorem xim_X5_listTo : Cond.instanceMethod yX5_listTo ∈ xg := xg7 8 rfl rfl
theorem xse_X5_listTo : Cond.selects RX5 yX5_listTo yX5_listTo ∈ xg := xg7 9 rfl rfl
theorem xcd_X5_between : Cond.code yX5_between cX5_between 4 none ∈ xg := xg7 16 rfl rfl
theorem xim_X5_between : Cond.instanceMethod yX5_between ∈ xg := xg7 15 rfl rfl
theorem xse_X5_between : Cond.selects RX5 yX5_between yX5_between ∈ xg := xp4 3 (q := (⟨"Treeletter$Orders", "between", "(III)V"⟩, 8)) rfl rfl
theorem xcd_X5_betweenMaps : Cond.code yX5_betweenMaps cX5_betweenMaps 8 none ∈ xg := xg7 22 rfl rfl
theorem xim_X5_betweenMaps : Cond.instanceMethod yX5_betweenMaps ∈ xg := xg7 21 rfl rfl
theorem xse_X5_betweenMaps : Cond.selects RX5 yX5_betweenMaps yX5_betweenMaps ∈ xg := xp4 4 (q := (⟨"Treeletter$Orders", "betweenMaps", "(III)V"⟩, 8)) rfl rfl
theorem xcd_X5_betweenRows : Cond.code yX5_betweenRows cX5_betweenRows 7 none ∈ xg := xg7 37 rfl rfl
theorem xim_X5_betweenRows : Cond.instanceMethod yX5_betweenRows ∈ xg := xg7 36 rfl rfl
theorem xse_X5_betweenRows : Cond.selects RX5 yX5_betweenRows yX5_betweenRows ∈ xg := xp4 5 (q := (⟨"Treeletter$Orders", "betweenRows", "(II)V"⟩, 8)) rfl rfl
theorem xcd_X5_addAtPlace : Cond.code yX5_addAtPlace cX5_addAtPlace 4 none ∈ xg := xg7 62 rfl rfl
theorem xim_X5_addAtPlace : Cond.instanceMethod yX5_addAtPlace ∈ xg := xg7 61 rfl rfl
theorem xse_X5_addAtPlace : Cond.selects RX5 yX5_addAtPlace yX5_addAtPlace ∈ xg := xp4 10 (q := (⟨"Treeletter$Orders", "addAtPlace", "(Ljava/lang/String;II)V"⟩, 8)) rfl rfl
theorem xcd_X5_gather : Cond.code yX5_gather cX5_gather 5 (some .int) ∈ xg := xg7 40 rfl rfl
theorem xst_X5_gather : Cond.static yX5_gather ∈ xg := xg7 39 rfl rfl
theorem xcd_X5_matchAll : Cond.code yX5_matchAll cX5_matchAll 5 none ∈ xg := xg7 44 rfl rfl
theorem xim_X5_matchAll : Cond.instanceMethod yX5_matchAll ∈ xg := xg7 43 rfl rfl
theorem xse_X5_matchAll : Cond.selects RX5 yX5_matchAll yX5_matchAll ∈ xg := xp4 6 (q := (⟨"Treeletter$Orders", "matchAll", "(II)V"⟩, 8)) rfl rfl
theorem xcd_X5_pairsFrom : Cond.code yX5_pairsFrom cX5_pairsFrom 3 (some .int) ∈ xg := xg7 53 rfl rfl
theorem xim_X5_pairsFrom : Cond.instanceMethod yX5_pairsFrom ∈ xg := xg7 52 rfl rfl
theorem xse_X5_pairsFrom : Cond.selects RX5 yX5_pairsFrom yX5_pairsFrom ∈ xg := xp4 8 (q := (⟨"Treeletter$Orders", "pairsFrom", "(II)I"⟩, 8)) rfl rfl
theorem xcd_X5_countPairs : Cond.code yX5_countPairs cX5_countPairs 6 none ∈ xg := xg7 48 rfl rfl
theorem xim_X5_countPairs : Cond.instanceMethod yX5_countPairs ∈ xg := xg7 47 rfl rfl
theorem xse_X5_countPairs : Cond.selects RX5 yX5_countPairs yX5_countPairs ∈ xg := xp4 7 (q := (⟨"Treeletter$Orders", "countPairs", "(II)V"⟩, 8)) rfl rfl
theorem xcd_X5_markPairs : Cond.code yX5_markPairs cX5_markPairs 6 none ∈ xg := xg7 58 rfl rfl
theorem xim_X5_markPairs : Cond.instanceMethod yX5_markPairs ∈ xg := xg7 57 rfl rfl
theorem xse_X5_markPairs : Cond.selects RX5 yX5_markPairs yX5_markPairs ∈ xg := xp4 9 (q := (⟨"Treeletter$Orders", "markPairs", "(II)V"⟩, 8)) rfl rfl
theorem xcd_X5_add : Cond.code yX5_add cX5_add 9 none ∈ xg := xg6 124 rfl rfl
theorem xst_X5_add : Cond.static yX5_add ∈ xg := xg6 123 rfl rfl
theorem xcd_X6_init : Cond.code yX6_init cX6_init 1 none ∈ xg := xg1 92 rfl rfl
theorem xim_X6_init : Cond.instanceMethod yX6_init ∈ xg := xg1 91 rfl rfl
theorem xcd_X6_result : Cond.code yX6_result cX6_result 1 (some (.object "Treeletter$Tree")) ∈ xg := xg3 202 rfl rfl
theorem xim_X6_result : Cond.instanceMethod yX6_result ∈ xg := xg3 200 rfl rfl
theorem xse_X6_result : Cond.selects RX6 yX6_result yX6_result ∈ xg := xg3 201 rfl rfl
theorem xcd_X6_parse : Cond.code yX6_parse cX6_parse 3 (some .int) ∈ xg := xg2 231 rfl rfl
theorem xim_X6_parse : Cond.instanceMethod yX6_parse ∈ xg := xg2 229 rfl rfl
theorem xse_X6_parse : Cond.selects RX6 yX6_parse yX6_parse ∈ xg := xg2 230 rfl rfl
theorem xcd_X6_here : Cond.code yX6_here cX6_here 1 (some .int) ∈ xg := xg3 12 rfl rfl
theorem xim_X6_here : Cond.instanceMethod yX6_here ∈ xg := xg3 11 rfl rfl
theorem xse_X6_here : Cond.selects RX6 yX6_here yX6_here ∈ xg := xp1 2 (q := (⟨"Treeletter$Reader", "here", "()I"⟩, 10)) rfl rfl
theorem xcd_X6_fail : Cond.code yX6_fail cX6_fail 2 (some .int) ∈ xg := xg3 20 rfl rfl
theorem xim_X6_fail : Cond.instanceMethod yX6_fail ∈ xg := xg3 19 rfl rfl
theorem xse_X6_fail : Cond.selects RX6 yX6_fail yX6_fail ∈ xg := xp1 3 (q := (⟨"Treeletter$Reader", "fail", "(I)I"⟩, 10)) rfl rfl
theorem xcd_X6_goesOn : Cond.code yX6_goesOn cX6_goesOn 1 (some .boolean) ∈ xg := xg3 50 rfl rfl
theorem xim_X6_goesOn : Cond.instanceMethod yX6_goesOn ∈ xg := xg3 49 rfl rfl
theorem xse_X6_goesOn : Cond.selects RX6 yX6_goesOn yX6_goesOn ∈ xg := xp1 6 (q := (⟨"Treeletter$Reader", "goesOn", "()Z"⟩, 10)) rfl rfl
theorem xcd_X6_skipBlanks : Cond.code yX6_skipBlanks cX6_skipBlanks 1 none ∈ xg := xg3 4 rfl rfl
theorem xim_X6_skipBlanks : Cond.instanceMethod yX6_skipBlanks ∈ xg := xg3 3 rfl rfl
theorem xse_X6_skipBlanks : Cond.selects RX6 yX6_skipBlanks yX6_skipBlanks ∈ xg := xp1 1 (q := (⟨"Treeletter$Reader", "skipBlanks", "()V"⟩, 10)) rfl rfl
theorem xcd_X6_isFigure : Cond.code yX6_isFigure cX6_isFigure 1 (some .boolean) ∈ xg := xg3 73 rfl rfl
theorem xst_X6_isFigure : Cond.static yX6_isFigure ∈ xg := xg3 72 rfl rfl
theorem xcd_X6_pass : Cond.code yX6_pass cX6_pass 2 none ∈ xg := xg3 62 rfl rfl
theorem xim_X6_pass : Cond.instanceMethod yX6_pass ∈ xg := xg3 61 rfl rfl
theorem xse_X6_pass : Cond.selects RX6 yX6_pass yX6_pass ∈ xg := xp1 9 (q := (⟨"Treeletter$Reader", "pass", "(I)V"⟩, 10)) rfl rfl
theorem xcd_X6_begin : Cond.code yX6_begin cX6_begin 3 (some .int) ∈ xg := xg3 28 rfl rfl
theorem xim_X6_begin : Cond.instanceMethod yX6_begin ∈ xg := xg3 27 rfl rfl
theorem xse_X6_begin : Cond.selects RX6 yX6_begin yX6_begin ∈ xg := xp1 5 (q := (⟨"Treeletter$Reader", "begin", "(I)I"⟩, 10)) rfl rfl
theorem xcd_X6_value : Cond.code yX6_value cX6_value 3 (some .int) ∈ xg := xg3 0 rfl rfl
theorem xim_X6_value : Cond.instanceMethod yX6_value ∈ xg := xg2 239 rfl rfl
theorem xse_X6_value : Cond.selects RX6 yX6_value yX6_value ∈ xg := xp1 0 (q := (⟨"Treeletter$Reader", "value", "(I)I"⟩, 10)) rfl rfl
theorem xcd_X6_constant : Cond.code yX6_constant cX6_constant 3 (some .int) ∈ xg := xg3 184 rfl rfl
theorem xim_X6_constant : Cond.instanceMethod yX6_constant ∈ xg := xg3 183 rfl rfl
theorem xse_X6_constant : Cond.selects RX6 yX6_constant yX6_constant ∈ xg := xp2 4 (q := (⟨"Treeletter$Reader", "constant", "(I)I"⟩, 10)) rfl rfl
theorem xcd_X6_passAll : Cond.code yX6_passAll cX6_passAll 3 none ∈ xg := xg3 189 rfl rfl
theorem xim_X6_passAll : Cond.instanceMethod yX6_passAll ∈ xg := xg3 188 rfl rfl
theorem xse_X6_passAll : Cond.selects RX6 yX6_passAll yX6_passAll ∈ xg := xp2 5 (q := (⟨"Treeletter$Reader", "passAll", "(Ljava/lang/String;)V"⟩, 10)) rfl rfl
theorem xcd_X6_text : Cond.code yX6_text cX6_text 3 (some .int) ∈ xg := xg3 152 rfl rfl
theorem xim_X6_text : Cond.instanceMethod yX6_text ∈ xg := xg3 151 rfl rfl
theorem xse_X6_text : Cond.selects RX6 yX6_text yX6_text ∈ xg := xp1 15 (q := (⟨"Treeletter$Reader", "text", "()I"⟩, 10)) rfl rfl
theorem xcd_X6_readSigns : Cond.code yX6_readSigns cX6_readSigns 5 none ∈ xg := xg3 58 rfl rfl
theorem xim_X6_readSigns : Cond.instanceMethod yX6_readSigns ∈ xg := xg3 57 rfl rfl
theorem xse_X6_readSigns : Cond.selects RX6 yX6_readSigns yX6_readSigns ∈ xg := xp1 8 (q := (⟨"Treeletter$Reader", "readSigns", "(LTreeletter$Sheet;I)V"⟩, 10)) rfl rfl
theorem xcd_X6_escaped : Cond.code yX6_escaped cX6_escaped 3 (some .int) ∈ xg := xg3 66 rfl rfl
theorem xim_X6_escaped : Cond.instanceMethod yX6_escaped ∈ xg := xg3 65 rfl rfl
theorem xse_X6_escaped : Cond.selects RX6 yX6_escaped yX6_escaped ∈ xg := xp1 10 (q := (⟨"Treeletter$Reader", "escaped", "()I"⟩, 10)) rfl rfl
theorem xcd_X6_hexFigure : Cond.code yX6_hexFigure cX6_hexFigure 2 (some .int) ∈ xg := xg3 70 rfl rfl
theorem xim_X6_hexFigure : Cond.instanceMethod yX6_hexFigure ∈ xg := xg3 69 rfl rfl
theorem xse_X6_hexFigure : Cond.selects RX6 yX6_hexFigure yX6_hexFigure ∈ xg := xp1 11 (q := (⟨"Treeletter$Reader", "hexFigure", "()I"⟩, 10)) rfl rfl
theorem xcd_X6_number : Cond.code yX6_number cX6_number 6 (some .int) ∈ xg := xg3 160 rfl rfl
theorem xim_X6_number : Cond.instanceMethod yX6_number ∈ xg := xg3 159 rfl rfl
theorem xse_X6_number : Cond.selects RX6 yX6_number yX6_number ∈ xg := xp2 0 (q := (⟨"Treeletter$Reader", "number", "()I"⟩, 10)) rfl rfl
theorem xcd_X6_readFigure : Cond.code yX6_readFigure cX6_readFigure 1 none ∈ xg := xg3 164 rfl rfl
theorem xim_X6_readFigure : Cond.instanceMethod yX6_readFigure ∈ xg := xg3 163 rfl rfl
theorem xse_X6_readFigure : Cond.selects RX6 yX6_readFigure yX6_readFigure ∈ xg := xp2 1 (q := (⟨"Treeletter$Reader", "readFigure", "()V"⟩, 10)) rfl rfl
theorem xcd_X6_readFigures : Cond.code yX6_readFigures cX6_readFigures 2 none ∈ xg := xg3 168 rfl rfl
theorem xim_X6_readFigures : Cond.instanceMethod yX6_readFigures ∈ xg := xg3 167 rfl rfl
theorem xse_X6_readFigures : Cond.selects RX6 yX6_readFigures yX6_readFigures ∈ xg := xp2 2 (q := (⟨"Treeletter$Reader", "readFigures", "()V"⟩, 10)) rfl rfl
theorem xcd_X6_exponent : Cond.code yX6_exponent cX6_exponent 3 (some .int) ∈ xg := xg3 172 rfl rfl
theorem xim_X6_exponent : Cond.instanceMethod yX6_exponent ∈ xg := xg3 171 rfl rfl
theorem xse_X6_exponent : Cond.selects RX6 yX6_exponent yX6_exponent ∈ xg := xp2 3 (q := (⟨"Treeletter$Reader", "exponent", "()I"⟩, 10)) rfl rfl
theorem xcd_X6_group : Cond.code yX6_group cX6_group 7 (some .int) ∈ xg := xg3 24 rfl rfl
theorem xim_X6_group : Cond.instanceMethod yX6_group ∈ xg := xg3 23 rfl rfl
theorem xse_X6_group : Cond.selects RX6 yX6_group yX6_group ∈ xg := xp1 4 (q := (⟨"Treeletter$Reader", "group", "(II)I"⟩, 10)) rfl rfl
theorem xcd_X6_entry : Cond.code yX6_entry cX6_entry 5 none ∈ xg := xg3 54 rfl rfl
theorem xim_X6_entry : Cond.instanceMethod yX6_entry ∈ xg := xg3 53 rfl rfl
theorem xse_X6_entry : Cond.selects RX6 yX6_entry yX6_entry ∈ xg := xp1 7 (q := (⟨"Treeletter$Reader", "entry", "(II)V"⟩, 10)) rfl rfl
theorem xcd_X7_init : Cond.code yX7_init cX7_init 1 none ∈ xg := xg1 133 rfl rfl
theorem xim_X7_init : Cond.instanceMethod yX7_init ∈ xg := xg1 132 rfl rfl
theorem xcd_X7_steps : Cond.code yX7_steps cX7_steps 1 (some .int) ∈ xg := xg6 2 rfl rfl
theorem xim_X7_steps : Cond.instanceMethod yX7_steps ∈ xg := xg6 0 rfl rfl
theorem xse_X7_steps : Cond.selects RX7 yX7_steps yX7_steps ∈ xg := xg6 1 rfl rfl
theorem xcd_X7_load : Cond.code yX7_load cX7_load 2 (some .boolean) ∈ xg := xg5 214 rfl rfl
theorem xim_X7_load : Cond.instanceMethod yX7_load ∈ xg := xg5 212 rfl rfl
theorem xse_X7_load : Cond.selects RX7 yX7_load yX7_load ∈ xg := xg5 213 rfl rfl
theorem xcd_X7_loadText : Cond.code yX7_loadText cX7_loadText 3 (some .boolean) ∈ xg := xg6 215 rfl rfl
theorem xim_X7_loadText : Cond.instanceMethod yX7_loadText ∈ xg := xg6 213 rfl rfl
theorem xse_X7_loadText : Cond.selects RX7 yX7_loadText yX7_loadText ∈ xg := xg6 214 rfl rfl
theorem xcd_X7_divide : Cond.code yX7_divide cX7_divide 4 (some .boolean) ∈ xg := xg5 225 rfl rfl
theorem xim_X7_divide : Cond.instanceMethod yX7_divide ∈ xg := xg5 224 rfl rfl
theorem xse_X7_divide : Cond.selects RX7 yX7_divide yX7_divide ∈ xg := xp3 3 (q := (⟨"Treeletter$Route", "divide", "()Z"⟩, 4)) rfl rfl
theorem xcd_X7_startOf : Cond.code yX7_startOf cX7_startOf 2 (some .int) ∈ xg := xg6 10 rfl rfl
theorem xim_X7_startOf : Cond.instanceMethod yX7_startOf ∈ xg := xg6 9 rfl rfl
theorem xse_X7_startOf : Cond.selects RX7 yX7_startOf yX7_startOf ∈ xg := xp3 6 (q := (⟨"Treeletter$Route", "startOf", "(I)I"⟩, 4)) rfl rfl
theorem xcd_X7_wordTo : Cond.code yX7_wordTo cX7_wordTo 5 none ∈ xg := xg6 6 rfl rfl
theorem xim_X7_wordTo : Cond.instanceMethod yX7_wordTo ∈ xg := xg6 4 rfl rfl
theorem xse_X7_wordTo : Cond.selects RX7 yX7_wordTo yX7_wordTo ∈ xg := xg6 5 rfl rfl
theorem xcd_X7_textTo : Cond.code yX7_textTo cX7_textTo 2 none ∈ xg := xg6 116 rfl rfl
theorem xim_X7_textTo : Cond.instanceMethod yX7_textTo ∈ xg := xg6 114 rfl rfl
theorem xse_X7_textTo : Cond.selects RX7 yX7_textTo yX7_textTo ∈ xg := xg6 115 rfl rfl
theorem xcd_X7_textWithPlace : Cond.code yX7_textWithPlace cX7_textWithPlace 3 none ∈ xg := xg6 153 rfl rfl
theorem xim_X7_textWithPlace : Cond.instanceMethod yX7_textWithPlace ∈ xg := xg6 151 rfl rfl
theorem xse_X7_textWithPlace : Cond.selects RX7 yX7_textWithPlace yX7_textWithPlace ∈ xg := xg6 152 rfl rfl
theorem xcd_X7_leadsTo : Cond.code yX7_leadsTo cX7_leadsTo 5 (some .int) ∈ xg := xg6 93 rfl rfl
theorem xim_X7_leadsTo : Cond.instanceMethod yX7_leadsTo ∈ xg := xg6 91 rfl rfl
theorem xse_X7_leadsTo : Cond.selects RX7 yX7_leadsTo yX7_leadsTo ∈ xg := xg6 92 rfl rfl
theorem xcd_X7_placeIn : Cond.code yX7_placeIn cX7_placeIn 6 (some .int) ∈ xg := xg6 50 rfl rfl
theorem xst_X7_placeIn : Cond.static yX7_placeIn ∈ xg := xg6 49 rfl rfl
theorem xcd_X8_value : Cond.code yX8_value cX8_value 5 none ∈ xg := xg4 194 rfl rfl
theorem xst_X8_value : Cond.static yX8_value ∈ xg := xg4 193 rfl rfl
theorem xcd_X8_number : Cond.code yX8_number cX8_number 3 none ∈ xg := xg4 212 rfl rfl
theorem xst_X8_number : Cond.static yX8_number ∈ xg := xg4 211 rfl rfl
theorem xcd_X8_text : Cond.code yX8_text cX8_text 4 none ∈ xg := xg4 238 rfl rfl
theorem xst_X8_text : Cond.static yX8_text ∈ xg := xg4 237 rfl rfl
theorem xcd_X8_key : Cond.code yX8_key cX8_key 4 none ∈ xg := xg5 30 rfl rfl
theorem xst_X8_key : Cond.static yX8_key ∈ xg := xg5 29 rfl rfl
theorem xcd_X8_group : Cond.code yX8_group cX8_group 10 none ∈ xg := xg5 7 rfl rfl
theorem xst_X8_group : Cond.static yX8_group ∈ xg := xg5 6 rfl rfl
theorem xcd_X8_line : Cond.code yX8_line cX8_line 3 none ∈ xg := xg5 26 rfl rfl
theorem xst_X8_line : Cond.static yX8_line ∈ xg := xg5 25 rfl rfl
theorem xcd_X8_standardTo : Cond.code yX8_standardTo cX8_standardTo 1 none ∈ xg := xg2 155 rfl rfl
theorem xst_X8_standardTo : Cond.static yX8_standardTo ∈ xg := xg2 154 rfl rfl
theorem xcd_X9_init : Cond.code yX9_init cX9_init 2 none ∈ xg := xg1 38 rfl rfl
theorem xim_X9_init : Cond.instanceMethod yX9_init ∈ xg := xg1 37 rfl rfl
theorem xcd_X9_length : Cond.code yX9_length cX9_length 1 (some .int) ∈ xg := xg3 8 rfl rfl
theorem xim_X9_length : Cond.instanceMethod yX9_length ∈ xg := xg3 6 rfl rfl
theorem xse_X9_length : Cond.selects RX9 yX9_length yX9_length ∈ xg := xg3 7 rfl rfl
theorem xcd_X9_clear : Cond.code yX9_clear cX9_clear 1 none ∈ xg := xg2 159 rfl rfl
theorem xim_X9_clear : Cond.instanceMethod yX9_clear ∈ xg := xg2 157 rfl rfl
theorem xse_X9_clear : Cond.selects RX9 yX9_clear yX9_clear ∈ xg := xg2 158 rfl rfl
theorem xcd_X9_shorten : Cond.code yX9_shorten cX9_shorten 2 none ∈ xg := xg7 31 rfl rfl
theorem xim_X9_shorten : Cond.instanceMethod yX9_shorten ∈ xg := xg7 29 rfl rfl
theorem xse_X9_shorten : Cond.selects RX9 yX9_shorten yX9_shorten ∈ xg := xg7 30 rfl rfl
theorem xcd_X9_at : Cond.code yX9_at cX9_at 2 (some .int) ∈ xg := xg3 16 rfl rfl
theorem xim_X9_at : Cond.instanceMethod yX9_at ∈ xg := xg3 14 rfl rfl
theorem xse_X9_at : Cond.selects RX9 yX9_at yX9_at ∈ xg := xg3 15 rfl rfl
theorem xcd_X9_add : Cond.code yX9_add cX9_add 2 none ∈ xg := xg2 216 rfl rfl
theorem xim_X9_add : Cond.instanceMethod yX9_add ∈ xg := xg2 214 rfl rfl
theorem xse_X9_add : Cond.selects RX9 yX9_add yX9_add ∈ xg := xg2 215 rfl rfl
theorem xcd_X9_addAll : Cond.code yX9_addAll cX9_addAll 3 none ∈ xg := xg2 164 rfl rfl
theorem xim_X9_addAll : Cond.instanceMethod yX9_addAll ∈ xg := xg2 162 rfl rfl
theorem xse_X9_addAll : Cond.selects RX9 yX9_addAll yX9_addAll ∈ xg := xg2 163 rfl rfl
theorem xcd_X9_addWritten : Cond.code yX9_addWritten cX9_addWritten 2 none ∈ xg := xg5 4 rfl rfl
theorem xim_X9_addWritten : Cond.instanceMethod yX9_addWritten ∈ xg := xg5 2 rfl rfl
theorem xse_X9_addWritten : Cond.selects RX9 yX9_addWritten yX9_addWritten ∈ xg := xg5 3 rfl rfl
theorem xcd_X9_addPart : Cond.code yX9_addPart cX9_addPart 5 none ∈ xg := xg5 220 rfl rfl
theorem xim_X9_addPart : Cond.instanceMethod yX9_addPart ∈ xg := xg5 218 rfl rfl
theorem xse_X9_addPart : Cond.selects RX9 yX9_addPart yX9_addPart ∈ xg := xg5 219 rfl rfl
theorem xcd_X9_addNumber : Cond.code yX9_addNumber cX9_addNumber 3 none ∈ xg := xg4 234 rfl rfl
theorem xim_X9_addNumber : Cond.instanceMethod yX9_addNumber ∈ xg := xg4 232 rfl rfl
theorem xse_X9_addNumber : Cond.selects RX9 yX9_addNumber yX9_addNumber ∈ xg := xg4 233 rfl rfl
theorem xcd_X9_says : Cond.code yX9_says cX9_says 4 (some .boolean) ∈ xg := xg6 21 rfl rfl
theorem xim_X9_says : Cond.instanceMethod yX9_says ∈ xg := xg6 19 rfl rfl
theorem xse_X9_says : Cond.selects RX9 yX9_says yX9_says ∈ xg := xg6 20 rfl rfl
theorem xcd_X9_endsWith : Cond.code yX9_endsWith cX9_endsWith 5 (some .boolean) ∈ xg := xg6 42 rfl rfl
theorem xim_X9_endsWith : Cond.instanceMethod yX9_endsWith ∈ xg := xg6 40 rfl rfl
theorem xse_X9_endsWith : Cond.selects RX9 yX9_endsWith yX9_endsWith ∈ xg := xg6 41 rfl rfl
theorem xcd_X9_placeOf : Cond.code yX9_placeOf cX9_placeOf 3 (some .int) ∈ xg := xg6 34 rfl rfl
theorem xim_X9_placeOf : Cond.instanceMethod yX9_placeOf ∈ xg := xg6 32 rfl rfl
theorem xse_X9_placeOf : Cond.selects RX9 yX9_placeOf yX9_placeOf ∈ xg := xg6 33 rfl rfl
theorem xcd_X9_digestOf : Cond.code yX9_digestOf cX9_digestOf 3 (some .int) ∈ xg := xg5 158 rfl rfl
theorem xim_X9_digestOf : Cond.instanceMethod yX9_digestOf ∈ xg := xg5 156 rfl rfl
theorem xse_X9_digestOf : Cond.selects RX9 yX9_digestOf yX9_digestOf ∈ xg := xg5 157 rfl rfl
theorem xcd_X10_init : Cond.code yX10_init cX10_init 1 none ∈ xg := xg1 57 rfl rfl
theorem xim_X10_init : Cond.instanceMethod yX10_init ∈ xg := xg1 56 rfl rfl
theorem xcd_X10_clear : Cond.code yX10_clear cX10_clear 1 none ∈ xg := xg2 235 rfl rfl
theorem xim_X10_clear : Cond.instanceMethod yX10_clear ∈ xg := xg2 233 rfl rfl
theorem xse_X10_clear : Cond.selects RX10 yX10_clear yX10_clear ∈ xg := xg2 234 rfl rfl
theorem xcd_X10_count : Cond.code yX10_count cX10_count 1 (some .int) ∈ xg := xg8 169 rfl rfl
theorem xim_X10_count : Cond.instanceMethod yX10_count ∈ xg := xg8 167 rfl rfl
theorem xse_X10_count : Cond.selects RX10 yX10_count yX10_count ∈ xg := xg8 168 rfl rfl
theorem xcd_X10_isOverfull : Cond.code yX10_isOverfull cX10_isOverfull 1 (some .boolean) ∈ xg := xg3 132 rfl rfl
theorem xim_X10_isOverfull : Cond.instanceMethod yX10_isOverfull ∈ xg := xg3 130 rfl rfl
theorem xse_X10_isOverfull : Cond.selects RX10 yX10_isOverfull yX10_isOverfull ∈ xg := xg3 131 rfl rfl
theorem xcd_X10_has : Cond.code yX10_has cX10_has 2 (some .boolean) ∈ xg := xg3 82 rfl rfl
theorem xim_X10_has : Cond.instanceMethod yX10_has ∈ xg := xg3 80 rfl rfl
theorem xse_X10_has : Cond.selects RX10 yX10_has yX10_has ∈ xg := xg3 81 rfl rfl
theorem xcd_X10_kind : Cond.code yX10_kind cX10_kind 2 (some .int) ∈ xg := xg4 198 rfl rfl
theorem xim_X10_kind : Cond.instanceMethod yX10_kind ∈ xg := xg4 196 rfl rfl
theorem xse_X10_kind : Cond.selects RX10 yX10_kind yX10_kind ∈ xg := xg4 197 rfl rfl
theorem xcd_X10_is : Cond.code yX10_is cX10_is 3 (some .boolean) ∈ xg := xg4 207 rfl rfl
theorem xim_X10_is : Cond.instanceMethod yX10_is ∈ xg := xg4 205 rfl rfl
theorem xse_X10_is : Cond.selects RX10 yX10_is yX10_is ∈ xg := xg4 206 rfl rfl
theorem xcd_X10_isGroup : Cond.code yX10_isGroup cX10_isGroup 2 (some .boolean) ∈ xg := xg4 176 rfl rfl
theorem xim_X10_isGroup : Cond.instanceMethod yX10_isGroup ∈ xg := xg4 174 rfl rfl
theorem xse_X10_isGroup : Cond.selects RX10 yX10_isGroup yX10_isGroup ∈ xg := xg4 175 rfl rfl
theorem xcd_X10_isTrue : Cond.code yX10_isTrue cX10_isTrue 2 (some .boolean) ∈ xg := xg4 203 rfl rfl
theorem xim_X10_isTrue : Cond.instanceMethod yX10_isTrue ∈ xg := xg4 201 rfl rfl
theorem xse_X10_isTrue : Cond.selects RX10 yX10_isTrue yX10_isTrue ∈ xg := xg4 202 rfl rfl
theorem xcd_X10_power : Cond.code yX10_power cX10_power 2 (some .int) ∈ xg := xg4 229 rfl rfl
theorem xim_X10_power : Cond.instanceMethod yX10_power ∈ xg := xg4 227 rfl rfl
theorem xse_X10_power : Cond.selects RX10 yX10_power yX10_power ∈ xg := xg4 228 rfl rfl
theorem xcd_X10_size : Cond.code yX10_size cX10_size 2 (some .int) ∈ xg := xg3 128 rfl rfl
theorem xim_X10_size : Cond.instanceMethod yX10_size ∈ xg := xg3 126 rfl rfl
theorem xse_X10_size : Cond.selects RX10 yX10_size yX10_size ∈ xg := xg3 127 rfl rfl
theorem xcd_X10_after : Cond.code yX10_after cX10_after 2 (some .int) ∈ xg := xg4 180 rfl rfl
theorem xim_X10_after : Cond.instanceMethod yX10_after ∈ xg := xg4 178 rfl rfl
theorem xse_X10_after : Cond.selects RX10 yX10_after yX10_after ∈ xg := xg4 179 rfl rfl
theorem xcd_X10_first : Cond.code yX10_first cX10_first 3 (some .int) ∈ xg := xg5 12 rfl rfl
theorem xim_X10_first : Cond.instanceMethod yX10_first ∈ xg := xg5 10 rfl rfl
theorem xse_X10_first : Cond.selects RX10 yX10_first yX10_first ∈ xg := xg5 11 rfl rfl
theorem xcd_X10_firstOfMap : Cond.code yX10_firstOfMap cX10_firstOfMap 3 (some .int) ∈ xg := xg3 90 rfl rfl
theorem xim_X10_firstOfMap : Cond.instanceMethod yX10_firstOfMap ∈ xg := xg3 88 rfl rfl
theorem xse_X10_firstOfMap : Cond.selects RX10 yX10_firstOfMap yX10_firstOfMap ∈ xg := xg3 89 rfl rfl
theorem xcd_X10_next : Cond.code yX10_next cX10_next 4 (some .int) ∈ xg := xg3 106 rfl rfl
theorem xim_X10_next : Cond.instanceMethod yX10_next ∈ xg := xg3 104 rfl rfl
theorem xse_X10_next : Cond.selects RX10 yX10_next yX10_next ∈ xg := xg3 105 rfl rfl
theorem xcd_X10_values : Cond.code yX10_values cX10_values 4 (some .int) ∈ xg := xg5 61 rfl rfl
theorem xim_X10_values : Cond.instanceMethod yX10_values ∈ xg := xg5 59 rfl rfl
theorem xse_X10_values : Cond.selects RX10 yX10_values yX10_values ∈ xg := xg5 60 rfl rfl
theorem xcd_X10_valueAt : Cond.code yX10_valueAt cX10_valueAt 5 (some .int) ∈ xg := xg6 55 rfl rfl
theorem xim_X10_valueAt : Cond.instanceMethod yX10_valueAt ∈ xg := xg6 53 rfl rfl
theorem xse_X10_valueAt : Cond.selects RX10 yX10_valueAt yX10_valueAt ∈ xg := xg6 54 rfl rfl
theorem xcd_X10_length : Cond.code yX10_length cX10_length 2 (some .int) ∈ xg := xg5 57 rfl rfl
theorem xim_X10_length : Cond.instanceMethod yX10_length ∈ xg := xg5 55 rfl rfl
theorem xse_X10_length : Cond.selects RX10 yX10_length yX10_length ∈ xg := xg5 56 rfl rfl
theorem xcd_X10_ownerOf : Cond.code yX10_ownerOf cX10_ownerOf 3 (some .int) ∈ xg := xg5 75 rfl rfl
theorem xim_X10_ownerOf : Cond.instanceMethod yX10_ownerOf ∈ xg := xg5 73 rfl rfl
theorem xse_X10_ownerOf : Cond.selects RX10 yX10_ownerOf yX10_ownerOf ∈ xg := xg5 74 rfl rfl
theorem xcd_X10_placeOf : Cond.code yX10_placeOf cX10_placeOf 5 (some .int) ∈ xg := xg5 79 rfl rfl
theorem xim_X10_placeOf : Cond.instanceMethod yX10_placeOf ∈ xg := xg5 77 rfl rfl
theorem xse_X10_placeOf : Cond.selects RX10 yX10_placeOf yX10_placeOf ∈ xg := xg5 78 rfl rfl
theorem xcd_X10_hasOnly : Cond.code yX10_hasOnly cX10_hasOnly 6 (some .boolean) ∈ xg := xg8 76 rfl rfl
theorem xim_X10_hasOnly : Cond.instanceMethod yX10_hasOnly ∈ xg := xg8 74 rfl rfl
theorem xse_X10_hasOnly : Cond.selects RX10 yX10_hasOnly yX10_hasOnly ∈ xg := xg8 75 rfl rfl
theorem xcd_X10_about : Cond.code yX10_about cX10_about 3 (some .int) ∈ xg := xg5 52 rfl rfl
theorem xim_X10_about : Cond.instanceMethod yX10_about ∈ xg := xg5 50 rfl rfl
theorem xse_X10_about : Cond.selects RX10 yX10_about yX10_about ∈ xg := xg5 51 rfl rfl
theorem xcd_X10_depth : Cond.code yX10_depth cX10_depth 6 (some .int) ∈ xg := xg4 172 rfl rfl
theorem xim_X10_depth : Cond.instanceMethod yX10_depth ∈ xg := xg4 171 rfl rfl
theorem xse_X10_depth : Cond.selects RX10 yX10_depth yX10_depth ∈ xg := xp2 8 (q := (⟨"Treeletter$Tree", "depth", "(II)I"⟩, 9)) rfl rfl
theorem xcd_X10_isDocument : Cond.code yX10_isDocument cX10_isDocument 1 (some .boolean) ∈ xg := xg4 168 rfl rfl
theorem xim_X10_isDocument : Cond.instanceMethod yX10_isDocument ∈ xg := xg4 166 rfl rfl
theorem xse_X10_isDocument : Cond.selects RX10 yX10_isDocument yX10_isDocument ∈ xg := xg4 167 rfl rfl
theorem xcd_X10_isWithinBounds : Cond.code yX10_isWithinBounds cX10_isWithinBounds 3 (some .boolean) ∈ xg := xg8 193 rfl rfl
theorem xim_X10_isWithinBounds : Cond.instanceMethod yX10_isWithinBounds ∈ xg := xg8 191 rfl rfl
theorem xse_X10_isWithinBounds : Cond.selects RX10 yX10_isWithinBounds yX10_isWithinBounds ∈ xg := xg8 192 rfl rfl
theorem xcd_X10_hasSoundSigns : Cond.code yX10_hasSoundSigns cX10_hasSoundSigns 5 (some .boolean) ∈ xg := xg8 197 rfl rfl
theorem xim_X10_hasSoundSigns : Cond.instanceMethod yX10_hasSoundSigns ∈ xg := xg8 196 rfl rfl
theorem xse_X10_hasSoundSigns : Cond.selects RX10 yX10_hasSoundSigns yX10_hasSoundSigns ∈ xg := xp6 5 (q := (⟨"Treeletter$Tree", "hasSoundSigns", "(I)Z"⟩, 9)) rfl rfl
theorem xcd_X10_hasSoundKeys : Cond.code yX10_hasSoundKeys cX10_hasSoundKeys 5 (some .boolean) ∈ xg := xg8 201 rfl rfl
theorem xim_X10_hasSoundKeys : Cond.instanceMethod yX10_hasSoundKeys ∈ xg := xg8 200 rfl rfl
theorem xse_X10_hasSoundKeys : Cond.selects RX10 yX10_hasSoundKeys yX10_hasSoundKeys ∈ xg := xp6 6 (q := (⟨"Treeletter$Tree", "hasSoundKeys", "(I)Z"⟩, 9)) rfl rfl
theorem xcd_X10_setNumber : Cond.code yX10_setNumber cX10_setNumber 8 (some .boolean) ∈ xg := xg3 176 rfl rfl
theorem xim_X10_setNumber : Cond.instanceMethod yX10_setNumber ∈ xg := xg3 174 rfl rfl
theorem xse_X10_setNumber : Cond.selects RX10 yX10_setNumber yX10_setNumber ∈ xg := xg3 175 rfl rfl
theorem xcd_X10_digit : Cond.code yX10_digit cX10_digit 4 (some .int) ∈ xg := xg5 147 rfl rfl
theorem xim_X10_digit : Cond.instanceMethod yX10_digit ∈ xg := xg5 146 rfl rfl
theorem xse_X10_digit : Cond.selects RX10 yX10_digit yX10_digit ∈ xg := xp3 0 (q := (⟨"Treeletter$Tree", "digit", "(II)I"⟩, 9)) rfl rfl
theorem xcd_X10_figures : Cond.code yX10_figures cX10_figures 2 (some .int) ∈ xg := xg5 67 rfl rfl
theorem xim_X10_figures : Cond.instanceMethod yX10_figures ∈ xg := xg5 65 rfl rfl
theorem xse_X10_figures : Cond.selects RX10 yX10_figures yX10_figures ∈ xg := xg5 66 rfl rfl
theorem xcd_X10_signOf : Cond.code yX10_signOf cX10_signOf 3 (some .int) ∈ xg := xg5 71 rfl rfl
theorem xim_X10_signOf : Cond.instanceMethod yX10_signOf ∈ xg := xg5 70 rfl rfl
theorem xse_X10_signOf : Cond.selects RX10 yX10_signOf yX10_signOf ∈ xg := xp2 12 (q := (⟨"Treeletter$Tree", "signOf", "(I)I"⟩, 9)) rfl rfl
theorem xcd_X10_order : Cond.code yX10_order cX10_order 2 (some .int) ∈ xg := xg5 143 rfl rfl
theorem xst_X10_order : Cond.static yX10_order ∈ xg := xg5 142 rfl rfl
theorem xcd_X10_orderOfNumbers : Cond.code yX10_orderOfNumbers cX10_orderOfNumbers 7 (some .int) ∈ xg := xg5 140 rfl rfl
theorem xim_X10_orderOfNumbers : Cond.instanceMethod yX10_orderOfNumbers ∈ xg := xg5 138 rfl rfl
theorem xse_X10_orderOfNumbers : Cond.selects RX10 yX10_orderOfNumbers yX10_orderOfNumbers ∈ xg := xg5 139 rfl rfl
theorem xcd_X10_signAt : Cond.code yX10_signAt cX10_signAt 4 (some .int) ∈ xg := xg4 224 rfl rfl
theorem xim_X10_signAt : Cond.instanceMethod yX10_signAt ∈ xg := xg4 222 rfl rfl
theorem xse_X10_signAt : Cond.selects RX10 yX10_signAt yX10_signAt ∈ xg := xg4 223 rfl rfl
theorem xcd_X10_lengthOf : Cond.code yX10_lengthOf cX10_lengthOf 2 (some .int) ∈ xg := xg4 220 rfl rfl
theorem xim_X10_lengthOf : Cond.instanceMethod yX10_lengthOf ∈ xg := xg4 218 rfl rfl
theorem xse_X10_lengthOf : Cond.selects RX10 yX10_lengthOf yX10_lengthOf ∈ xg := xg4 219 rfl rfl
theorem xcd_X10_addSign : Cond.code yX10_addSign cX10_addSign 4 none ∈ xg := xg3 156 rfl rfl
theorem xim_X10_addSign : Cond.instanceMethod yX10_addSign ∈ xg := xg3 154 rfl rfl
theorem xse_X10_addSign : Cond.selects RX10 yX10_addSign yX10_addSign ∈ xg := xg3 155 rfl rfl
theorem xcd_X10_signsTo : Cond.code yX10_signsTo cX10_signsTo 4 none ∈ xg := xg4 216 rfl rfl
theorem xim_X10_signsTo : Cond.instanceMethod yX10_signsTo ∈ xg := xg4 214 rfl rfl
theorem xse_X10_signsTo : Cond.selects RX10 yX10_signsTo yX10_signsTo ∈ xg := xg4 215 rfl rfl
theorem xcd_X10_says : Cond.code yX10_says cX10_says 5 (some .boolean) ∈ xg := xg6 220 rfl rfl
theorem xim_X10_says : Cond.instanceMethod yX10_says ∈ xg := xg6 218 rfl rfl
theorem xse_X10_says : Cond.selects RX10 yX10_says yX10_says ∈ xg := xg6 219 rfl rfl
theorem xcd_X10_keyLength : Cond.code yX10_keyLength cX10_keyLength 2 (some .int) ∈ xg := xg3 98 rfl rfl
theorem xim_X10_keyLength : Cond.instanceMethod yX10_keyLength ∈ xg := xg3 96 rfl rfl
theorem xse_X10_keyLength : Cond.selects RX10 yX10_keyLength yX10_keyLength ∈ xg := xg3 97 rfl rfl
theorem xcd_X10_keySign : Cond.code yX10_keySign cX10_keySign 4 (some .int) ∈ xg := xg3 102 rfl rfl
theorem xim_X10_keySign : Cond.instanceMethod yX10_keySign ∈ xg := xg3 100 rfl rfl
theorem xse_X10_keySign : Cond.selects RX10 yX10_keySign yX10_keySign ∈ xg := xg3 101 rfl rfl
theorem xcd_X10_addKeySign : Cond.code yX10_addKeySign cX10_addKeySign 4 none ∈ xg := xg3 46 rfl rfl
theorem xim_X10_addKeySign : Cond.instanceMethod yX10_addKeySign ∈ xg := xg3 44 rfl rfl
theorem xse_X10_addKeySign : Cond.selects RX10 yX10_addKeySign yX10_addKeySign ∈ xg := xg3 45 rfl rfl
theorem xcd_X10_clearKey : Cond.code yX10_clearKey cX10_clearKey 2 none ∈ xg := xg3 40 rfl rfl
theorem xim_X10_clearKey : Cond.instanceMethod yX10_clearKey ∈ xg := xg3 38 rfl rfl
theorem xse_X10_clearKey : Cond.selects RX10 yX10_clearKey yX10_clearKey ∈ xg := xg3 39 rfl rfl
theorem xcd_X10_setKey : Cond.code yX10_setKey cX10_setKey 4 none ∈ xg := xg3 36 rfl rfl
theorem xim_X10_setKey : Cond.instanceMethod yX10_setKey ∈ xg := xg3 34 rfl rfl
theorem xse_X10_setKey : Cond.selects RX10 yX10_setKey yX10_setKey ∈ xg := xg3 35 rfl rfl
theorem xcd_X10_setKeyWord : Cond.code yX10_setKeyWord cX10_setKeyWord 4 none ∈ xg := xg6 130 rfl rfl
theorem xim_X10_setKeyWord : Cond.instanceMethod yX10_setKeyWord ∈ xg := xg6 128 rfl rfl
theorem xse_X10_setKeyWord : Cond.selects RX10 yX10_setKeyWord yX10_setKeyWord ∈ xg := xg6 129 rfl rfl
theorem xcd_X10_setKeyLike : Cond.code yX10_setKeyLike cX10_setKeyLike 5 none ∈ xg := xg7 112 rfl rfl
theorem xim_X10_setKeyLike : Cond.instanceMethod yX10_setKeyLike ∈ xg := xg7 110 rfl rfl
theorem xse_X10_setKeyLike : Cond.selects RX10 yX10_setKeyLike yX10_setKeyLike ∈ xg := xg7 111 rfl rfl
theorem xcd_X10_keyTo : Cond.code yX10_keyTo cX10_keyTo 4 none ∈ xg := xg5 96 rfl rfl
theorem xim_X10_keyTo : Cond.instanceMethod yX10_keyTo ∈ xg := xg5 94 rfl rfl
theorem xse_X10_keyTo : Cond.selects RX10 yX10_keyTo yX10_keyTo ∈ xg := xg5 95 rfl rfl
theorem xcd_X10_orderOfKeys : Cond.code yX10_orderOfKeys cX10_orderOfKeys 7 (some .int) ∈ xg := xg5 20 rfl rfl
theorem xim_X10_orderOfKeys : Cond.instanceMethod yX10_orderOfKeys ∈ xg := xg5 19 rfl rfl
theorem xse_X10_orderOfKeys : Cond.selects RX10 yX10_orderOfKeys yX10_orderOfKeys ∈ xg := xp2 10 (q := (⟨"Treeletter$Tree", "orderOfKeys", "(ILTreeletter$Tree;I)I"⟩, 9)) rfl rfl
theorem xcd_X10_valueLike : Cond.code yX10_valueLike cX10_valueLike 6 (some .int) ∈ xg := xg5 128 rfl rfl
theorem xim_X10_valueLike : Cond.instanceMethod yX10_valueLike ∈ xg := xg5 126 rfl rfl
theorem xse_X10_valueLike : Cond.selects RX10 yX10_valueLike yX10_valueLike ∈ xg := xg5 127 rfl rfl
theorem xcd_X10_valueOf : Cond.code yX10_valueOf cX10_valueOf 5 (some .int) ∈ xg := xg3 86 rfl rfl
theorem xim_X10_valueOf : Cond.instanceMethod yX10_valueOf ∈ xg := xg3 84 rfl rfl
theorem xse_X10_valueOf : Cond.selects RX10 yX10_valueOf yX10_valueOf ∈ xg := xg3 85 rfl rfl
theorem xcd_X10_hasKey : Cond.code yX10_hasKey cX10_hasKey 5 (some .boolean) ∈ xg := xg3 94 rfl rfl
theorem xim_X10_hasKey : Cond.instanceMethod yX10_hasKey ∈ xg := xg3 93 rfl rfl
theorem xse_X10_hasKey : Cond.selects RX10 yX10_hasKey yX10_hasKey ∈ xg := xp1 12 (q := (⟨"Treeletter$Tree", "hasKey", "(ILTreeletter$Sheet;)Z"⟩, 9)) rfl rfl
theorem xcd_X10_valueNamed : Cond.code yX10_valueNamed cX10_valueNamed 5 (some .int) ∈ xg := xg6 204 rfl rfl
theorem xim_X10_valueNamed : Cond.instanceMethod yX10_valueNamed ∈ xg := xg6 202 rfl rfl
theorem xse_X10_valueNamed : Cond.selects RX10 yX10_valueNamed yX10_valueNamed ∈ xg := xg6 203 rfl rfl
theorem xcd_X10_hasKeyWord : Cond.code yX10_hasKeyWord cX10_hasKeyWord 5 (some .boolean) ∈ xg := xg6 208 rfl rfl
theorem xim_X10_hasKeyWord : Cond.instanceMethod yX10_hasKeyWord ∈ xg := xg6 207 rfl rfl
theorem xse_X10_hasKeyWord : Cond.selects RX10 yX10_hasKeyWord yX10_hasKeyWord ∈ xg := xp3 15 (q := (⟨"Treeletter$Tree", "hasKeyWord", "(ILjava/lang/String;)Z"⟩, 9)) rfl rfl
theorem xcd_X10_nextByKey : Cond.code yX10_nextByKey cX10_nextByKey 7 (some .int) ∈ xg := xg5 16 rfl rfl
theorem xim_X10_nextByKey : Cond.instanceMethod yX10_nextByKey ∈ xg := xg5 14 rfl rfl
theorem xse_X10_nextByKey : Cond.selects RX10 yX10_nextByKey yX10_nextByKey ∈ xg := xg5 15 rfl rfl
theorem xcd_X10_same : Cond.code yX10_same cX10_same 10 (some .boolean) ∈ xg := xg5 116 rfl rfl
theorem xim_X10_same : Cond.instanceMethod yX10_same ∈ xg := xg5 115 rfl rfl
theorem xse_X10_same : Cond.selects RX10 yX10_same yX10_same ∈ xg := xp2 13 (q := (⟨"Treeletter$Tree", "same", "(ILTreeletter$Tree;II)Z"⟩, 9)) rfl rfl
theorem xcd_X10_sameSigns : Cond.code yX10_sameSigns cX10_sameSigns 6 (some .boolean) ∈ xg := xg5 120 rfl rfl
theorem xim_X10_sameSigns : Cond.instanceMethod yX10_sameSigns ∈ xg := xg5 119 rfl rfl
theorem xse_X10_sameSigns : Cond.selects RX10 yX10_sameSigns yX10_sameSigns ∈ xg := xp2 14 (q := (⟨"Treeletter$Tree", "sameSigns", "(ILTreeletter$Tree;I)Z"⟩, 9)) rfl rfl
theorem xcd_X10_powerOrTruth : Cond.code yX10_powerOrTruth cX10_powerOrTruth 2 (some .int) ∈ xg := xg5 124 rfl rfl
theorem xim_X10_powerOrTruth : Cond.instanceMethod yX10_powerOrTruth ∈ xg := xg5 123 rfl rfl
theorem xse_X10_powerOrTruth : Cond.selects RX10 yX10_powerOrTruth yX10_powerOrTruth ∈ xg := xp2 15 (q := (⟨"Treeletter$Tree", "powerOrTruth", "(I)I"⟩, 9)) rfl rfl
theorem xcd_X10_pathTo : Cond.code yX10_pathTo cX10_pathTo 4 none ∈ xg := xg5 100 rfl rfl
theorem xim_X10_pathTo : Cond.instanceMethod yX10_pathTo ∈ xg := xg5 98 rfl rfl
theorem xse_X10_pathTo : Cond.selects RX10 yX10_pathTo yX10_pathTo ∈ xg := xg5 99 rfl rfl
theorem xcd_X10_stepTo : Cond.code yX10_stepTo cX10_stepTo 5 none ∈ xg := xg5 104 rfl rfl
theorem xim_X10_stepTo : Cond.instanceMethod yX10_stepTo ∈ xg := xg5 102 rfl rfl
theorem xse_X10_stepTo : Cond.selects RX10 yX10_stepTo yX10_stepTo ∈ xg := xg5 103 rfl rfl
theorem xcd_X10_add : Cond.code yX10_add cX10_add 2 (some .int) ∈ xg := xg3 32 rfl rfl
theorem xim_X10_add : Cond.instanceMethod yX10_add ∈ xg := xg3 30 rfl rfl
theorem xse_X10_add : Cond.selects RX10 yX10_add yX10_add ∈ xg := xg3 31 rfl rfl
theorem xcd_X10_addTruth : Cond.code yX10_addTruth cX10_addTruth 3 (some .int) ∈ xg := xg3 197 rfl rfl
theorem xim_X10_addTruth : Cond.instanceMethod yX10_addTruth ∈ xg := xg3 195 rfl rfl
theorem xse_X10_addTruth : Cond.selects RX10 yX10_addTruth yX10_addTruth ∈ xg := xg3 196 rfl rfl
theorem xcd_X10_close : Cond.code yX10_close cX10_close 2 none ∈ xg := xg3 78 rfl rfl
theorem xim_X10_close : Cond.instanceMethod yX10_close ∈ xg := xg3 76 rfl rfl
theorem xse_X10_close : Cond.selects RX10 yX10_close yX10_close ∈ xg := xg3 77 rfl rfl
theorem xcd_X10_dropFrom : Cond.code yX10_dropFrom cX10_dropFrom 2 none ∈ xg := xg3 111 rfl rfl
theorem xim_X10_dropFrom : Cond.instanceMethod yX10_dropFrom ∈ xg := xg3 109 rfl rfl
theorem xse_X10_dropFrom : Cond.selects RX10 yX10_dropFrom yX10_dropFrom ∈ xg := xg3 110 rfl rfl
theorem xcd_X10_append : Cond.code yX10_append cX10_append 4 (some .int) ∈ xg := xg3 124 rfl rfl
theorem xim_X10_append : Cond.instanceMethod yX10_append ∈ xg := xg3 122 rfl rfl
theorem xse_X10_append : Cond.selects RX10 yX10_append yX10_append ∈ xg := xg3 123 rfl rfl
theorem xcd_X10_copyOf : Cond.code yX10_copyOf cX10_copyOf 3 none ∈ xg := xg3 119 rfl rfl
theorem xim_X10_copyOf : Cond.instanceMethod yX10_copyOf ∈ xg := xg3 117 rfl rfl
theorem xse_X10_copyOf : Cond.selects RX10 yX10_copyOf yX10_copyOf ∈ xg := xg3 118 rfl rfl
theorem xcd_X10_appendInOrder : Cond.code yX10_appendInOrder cX10_appendInOrder 8 none ∈ xg := xg5 179 rfl rfl
theorem xim_X10_appendInOrder : Cond.instanceMethod yX10_appendInOrder ∈ xg := xg5 178 rfl rfl
theorem xse_X10_appendInOrder : Cond.selects RX10 yX10_appendInOrder yX10_appendInOrder ∈ xg := xp3 1 (q := (⟨"Treeletter$Tree", "appendInOrder", "(LTreeletter$Tree;II)V"⟩, 9)) rfl rfl
theorem xcd_X10_copyNodes : Cond.code yX10_copyNodes cX10_copyNodes 5 none ∈ xg := xg3 136 rfl rfl
theorem xim_X10_copyNodes : Cond.instanceMethod yX10_copyNodes ∈ xg := xg3 135 rfl rfl
theorem xse_X10_copyNodes : Cond.selects RX10 yX10_copyNodes yX10_copyNodes ∈ xg := xp1 13 (q := (⟨"Treeletter$Tree", "copyNodes", "(ILTreeletter$Tree;II)V"⟩, 9)) rfl rfl
theorem xcd_X10_splice : Cond.code yX10_splice cX10_splice 9 (some .boolean) ∈ xg := xg3 148 rfl rfl
theorem xim_X10_splice : Cond.instanceMethod yX10_splice ∈ xg := xg3 147 rfl rfl
theorem xse_X10_splice : Cond.selects RX10 yX10_splice yX10_splice ∈ xg := xp1 14 (q := (⟨"Treeletter$Tree", "splice", "(IIILTreeletter$Tree;II)Z"⟩, 9)) rfl rfl
theorem xcd_X10_replace : Cond.code yX10_replace cX10_replace 4 none ∈ xg := xg3 144 rfl rfl
theorem xim_X10_replace : Cond.instanceMethod yX10_replace ∈ xg := xg3 142 rfl rfl
theorem xse_X10_replace : Cond.selects RX10 yX10_replace yX10_replace ∈ xg := xg3 143 rfl rfl
theorem xcd_X10_insert : Cond.code yX10_insert cX10_insert 5 none ∈ xg := xg6 145 rfl rfl
theorem xim_X10_insert : Cond.instanceMethod yX10_insert ∈ xg := xg6 143 rfl rfl
theorem xse_X10_insert : Cond.selects RX10 yX10_insert yX10_insert ∈ xg := xg6 144 rfl rfl
theorem xcd_X10_remove : Cond.code yX10_remove cX10_remove 2 none ∈ xg := xg6 183 rfl rfl
theorem xim_X10_remove : Cond.instanceMethod yX10_remove ∈ xg := xg6 181 rfl rfl
theorem xse_X10_remove : Cond.selects RX10 yX10_remove yX10_remove ∈ xg := xg6 182 rfl rfl
theorem xcd_X10_replaceByLast : Cond.code yX10_replaceByLast cX10_replaceByLast 4 none ∈ xg := xg3 115 rfl rfl
theorem xim_X10_replaceByLast : Cond.instanceMethod yX10_replaceByLast ∈ xg := xg3 113 rfl rfl
theorem xse_X10_replaceByLast : Cond.selects RX10 yX10_replaceByLast yX10_replaceByLast ∈ xg := xg3 114 rfl rfl
theorem xcd_X11_init : Cond.code yX11_init cX11_init 2 none ∈ xg := xg1 30 rfl rfl
theorem xim_X11_init : Cond.instanceMethod yX11_init ∈ xg := xg1 29 rfl rfl
theorem xcd_X11_write : Cond.code yX11_write cX11_write 5 (some .int) ∈ xg := xg4 36 rfl rfl
theorem xim_X11_write : Cond.instanceMethod yX11_write ∈ xg := xg4 34 rfl rfl
theorem xse_X11_write : Cond.selects RX11 yX11_write yX11_write ∈ xg := xg4 35 rfl rfl
theorem xcd_X11_wipe : Cond.code yX11_wipe cX11_wipe 2 (some .int) ∈ xg := xg4 17 rfl rfl
theorem xim_X11_wipe : Cond.instanceMethod yX11_wipe ∈ xg := xg4 15 rfl rfl
theorem xse_X11_wipe : Cond.selects RX11 yX11_wipe yX11_wipe ∈ xg := xg4 16 rfl rfl
theorem xcd_X11_paper : Cond.code yX11_paper cX11_paper 6 (some .long) ∈ xg := xg4 129 rfl rfl
theorem xim_X11_paper : Cond.instanceMethod yX11_paper ∈ xg := xg4 127 rfl rfl
theorem xse_X11_paper : Cond.selects RX11 yX11_paper yX11_paper ∈ xg := xg4 128 rfl rfl
theorem xcd_X11_rule : Cond.code yX11_rule cX11_rule 3 (some .int) ∈ xg := xg4 153 rfl rfl
theorem xim_X11_rule : Cond.instanceMethod yX11_rule ∈ xg := xg4 151 rfl rfl
theorem xse_X11_rule : Cond.selects RX11 yX11_rule yX11_rule ∈ xg := xg4 152 rfl rfl
theorem xcd_X11_read : Cond.code yX11_read cX11_read 2 (some .int) ∈ xg := xg4 160 rfl rfl
theorem xim_X11_read : Cond.instanceMethod yX11_read ∈ xg := xg4 158 rfl rfl
theorem xse_X11_read : Cond.selects RX11 yX11_read yX11_read ∈ xg := xg4 159 rfl rfl
theorem xcd_X11_print : Cond.code yX11_print cX11_print 4 (some .int) ∈ xg := xg4 187 rfl rfl
theorem xim_X11_print : Cond.instanceMethod yX11_print ∈ xg := xg4 185 rfl rfl
theorem xse_X11_print : Cond.selects RX11 yX11_print yX11_print ∈ xg := xg4 186 rfl rfl
theorem xcd_X11_node : Cond.code yX11_node cX11_node 5 (some .int) ∈ xg := xg5 43 rfl rfl
theorem xim_X11_node : Cond.instanceMethod yX11_node ∈ xg := xg5 41 rfl rfl
theorem xse_X11_node : Cond.selects RX11 yX11_node yX11_node ∈ xg := xg5 42 rfl rfl
theorem xcd_X11_tell : Cond.code yX11_tell cX11_tell 5 (some .int) ∈ xg := xg5 86 rfl rfl
theorem xim_X11_tell : Cond.instanceMethod yX11_tell ∈ xg := xg5 84 rfl rfl
theorem xse_X11_tell : Cond.selects RX11 yX11_tell yX11_tell ∈ xg := xg5 85 rfl rfl
theorem xcd_X11_equal : Cond.code yX11_equal cX11_equal 5 (some .boolean) ∈ xg := xg5 112 rfl rfl
theorem xim_X11_equal : Cond.instanceMethod yX11_equal ∈ xg := xg5 110 rfl rfl
theorem xse_X11_equal : Cond.selects RX11 yX11_equal yX11_equal ∈ xg := xg5 111 rfl rfl
theorem xcd_X11_compare : Cond.code yX11_compare cX11_compare 5 (some .int) ∈ xg := xg5 136 rfl rfl
theorem xim_X11_compare : Cond.instanceMethod yX11_compare ∈ xg := xg5 134 rfl rfl
theorem xse_X11_compare : Cond.selects RX11 yX11_compare yX11_compare ∈ xg := xg5 135 rfl rfl
theorem xcd_X11_digest : Cond.code yX11_digest cX11_digest 4 (some .int) ∈ xg := xg5 154 rfl rfl
theorem xim_X11_digest : Cond.instanceMethod yX11_digest ∈ xg := xg5 152 rfl rfl
theorem xse_X11_digest : Cond.selects RX11 yX11_digest yX11_digest ∈ xg := xg5 153 rfl rfl
theorem xcd_X11_take : Cond.code yX11_take cX11_take 4 (some .int) ∈ xg := xg5 167 rfl rfl
theorem xim_X11_take : Cond.instanceMethod yX11_take ∈ xg := xg5 165 rfl rfl
theorem xse_X11_take : Cond.selects RX11 yX11_take yX11_take ∈ xg := xg5 166 rfl rfl
theorem xcd_X11_sorted : Cond.code yX11_sorted cX11_sorted 3 (some .int) ∈ xg := xg5 174 rfl rfl
theorem xim_X11_sorted : Cond.instanceMethod yX11_sorted ∈ xg := xg5 172 rfl rfl
theorem xse_X11_sorted : Cond.selects RX11 yX11_sorted yX11_sorted ∈ xg := xg5 173 rfl rfl
theorem xcd_X11_both : Cond.code yX11_both cX11_both 6 (some .int) ∈ xg := xg5 189 rfl rfl
theorem xim_X11_both : Cond.instanceMethod yX11_both ∈ xg := xg5 187 rfl rfl
theorem xse_X11_both : Cond.selects RX11 yX11_both yX11_both ∈ xg := xg5 188 rfl rfl
theorem xcd_X11_undo : Cond.code yX11_undo cX11_undo 1 (some .int) ∈ xg := xg5 199 rfl rfl
theorem xim_X11_undo : Cond.instanceMethod yX11_undo ∈ xg := xg5 197 rfl rfl
theorem xse_X11_undo : Cond.selects RX11 yX11_undo yX11_undo ∈ xg := xg5 198 rfl rfl
theorem xcd_X11_select : Cond.code yX11_select cX11_select 3 (some .int) ∈ xg := xg5 206 rfl rfl
theorem xim_X11_select : Cond.instanceMethod yX11_select ∈ xg := xg5 204 rfl rfl
theorem xse_X11_select : Cond.selects RX11 yX11_select yX11_select ∈ xg := xg5 205 rfl rfl
theorem xcd_X11_find : Cond.code yX11_find cX11_find 2 (some .int) ∈ xg := xg6 66 rfl rfl
theorem xim_X11_find : Cond.instanceMethod yX11_find ∈ xg := xg6 64 rfl rfl
theorem xse_X11_find : Cond.selects RX11 yX11_find yX11_find ∈ xg := xg6 65 rfl rfl
theorem xcd_X11_put : Cond.code yX11_put cX11_put 5 (some .int) ∈ xg := xg6 77 rfl rfl
theorem xim_X11_put : Cond.instanceMethod yX11_put ∈ xg := xg6 75 rfl rfl
theorem xse_X11_put : Cond.selects RX11 yX11_put yX11_put ∈ xg := xg6 76 rfl rfl
theorem xcd_X11_cut : Cond.code yX11_cut cX11_cut 3 (some .int) ∈ xg := xg6 174 rfl rfl
theorem xim_X11_cut : Cond.instanceMethod yX11_cut ∈ xg := xg6 172 rfl rfl
theorem xse_X11_cut : Cond.selects RX11 yX11_cut yX11_cut ∈ xg := xg6 173 rfl rfl
theorem xcd_X11_lay : Cond.code yX11_lay cX11_lay 6 (some .int) ∈ xg := xg6 190 rfl rfl
theorem xim_X11_lay : Cond.instanceMethod yX11_lay ∈ xg := xg6 188 rfl rfl
theorem xse_X11_lay : Cond.selects RX11 yX11_lay yX11_lay ∈ xg := xg6 189 rfl rfl
theorem xcd_X11_patch : Cond.code yX11_patch cX11_patch 5 (some .int) ∈ xg := xg7 6 rfl rfl
theorem xim_X11_patch : Cond.instanceMethod yX11_patch ∈ xg := xg7 4 rfl rfl
theorem xse_X11_patch : Cond.selects RX11 yX11_patch yX11_patch ∈ xg := xg7 5 rfl rfl
theorem xcd_X11_turn : Cond.code yX11_turn cX11_turn 5 (some .int) ∈ xg := xg7 72 rfl rfl
theorem xim_X11_turn : Cond.instanceMethod yX11_turn ∈ xg := xg7 70 rfl rfl
theorem xse_X11_turn : Cond.selects RX11 yX11_turn yX11_turn ∈ xg := xg7 71 rfl rfl
theorem xcd_X11_join : Cond.code yX11_join cX11_join 8 (some .int) ∈ xg := xg7 83 rfl rfl
theorem xim_X11_join : Cond.instanceMethod yX11_join ∈ xg := xg7 81 rfl rfl
theorem xse_X11_join : Cond.selects RX11 yX11_join yX11_join ∈ xg := xg7 82 rfl rfl
theorem xcd_X11_quarrels : Cond.code yX11_quarrels cX11_quarrels 1 (some .int) ∈ xg := xg4 23 rfl rfl
theorem xim_X11_quarrels : Cond.instanceMethod yX11_quarrels ∈ xg := xg4 21 rfl rfl
theorem xse_X11_quarrels : Cond.selects RX11 yX11_quarrels yX11_quarrels ∈ xg := xg4 22 rfl rfl
theorem xcd_X11_quarrel : Cond.code yX11_quarrel cX11_quarrel 2 (some .int) ∈ xg := xg7 140 rfl rfl
theorem xim_X11_quarrel : Cond.instanceMethod yX11_quarrel ∈ xg := xg7 138 rfl rfl
theorem xse_X11_quarrel : Cond.selects RX11 yX11_quarrel yX11_quarrel ∈ xg := xg7 139 rfl rfl
theorem xcd_X11_standard : Cond.code yX11_standard cX11_standard 1 (some .int) ∈ xg := xg7 155 rfl rfl
theorem xim_X11_standard : Cond.instanceMethod yX11_standard ∈ xg := xg7 153 rfl rfl
theorem xse_X11_standard : Cond.selects RX11 yX11_standard yX11_standard ∈ xg := xg7 154 rfl rfl
theorem xcd_X11_check : Cond.code yX11_check cX11_check 5 (some .int) ∈ xg := xg7 162 rfl rfl
theorem xim_X11_check : Cond.instanceMethod yX11_check ∈ xg := xg7 160 rfl rfl
theorem xse_X11_check : Cond.selects RX11 yX11_check yX11_check ∈ xg := xg7 161 rfl rfl
theorem xcd_X11_complaint : Cond.code yX11_complaint cX11_complaint 3 (some .int) ∈ xg := xg8 57 rfl rfl
theorem xim_X11_complaint : Cond.instanceMethod yX11_complaint ∈ xg := xg8 55 rfl rfl
theorem xse_X11_complaint : Cond.selects RX11 yX11_complaint yX11_complaint ∈ xg := xg8 56 rfl rfl
theorem xcd_X11_columns : Cond.code yX11_columns cX11_columns 3 (some .int) ∈ xg := xg8 72 rfl rfl
theorem xim_X11_columns : Cond.instanceMethod yX11_columns ∈ xg := xg8 70 rfl rfl
theorem xse_X11_columns : Cond.selects RX11 yX11_columns yX11_columns ∈ xg := xg8 71 rfl rfl
theorem xcd_X11_rows : Cond.code yX11_rows cX11_rows 3 (some .int) ∈ xg := xg8 94 rfl rfl
theorem xim_X11_rows : Cond.instanceMethod yX11_rows ∈ xg := xg8 92 rfl rfl
theorem xse_X11_rows : Cond.selects RX11 yX11_rows yX11_rows ∈ xg := xg8 93 rfl rfl
theorem xcd_X11_grow : Cond.code yX11_grow cX11_grow 3 (some .int) ∈ xg := xg8 110 rfl rfl
theorem xim_X11_grow : Cond.instanceMethod yX11_grow ∈ xg := xg8 108 rfl rfl
theorem xse_X11_grow : Cond.selects RX11 yX11_grow yX11_grow ∈ xg := xg8 109 rfl rfl
theorem xcd_X11_vary : Cond.code yX11_vary cX11_vary 5 (some .int) ∈ xg := xg8 165 rfl rfl
theorem xim_X11_vary : Cond.instanceMethod yX11_vary ∈ xg := xg8 163 rfl rfl
theorem xse_X11_vary : Cond.selects RX11 yX11_vary yX11_vary ∈ xg := xg8 164 rfl rfl
theorem xcd_X11_sum : Cond.code yX11_sum cX11_sum 2 (some .int) ∈ xg := xg8 178 rfl rfl
theorem xim_X11_sum : Cond.instanceMethod yX11_sum ∈ xg := xg8 176 rfl rfl
theorem xse_X11_sum : Cond.selects RX11 yX11_sum yX11_sum ∈ xg := xg8 177 rfl rfl
theorem xcd_X11_isSound : Cond.code yX11_isSound cX11_isSound 5 (some .boolean) ∈ xg := xg8 189 rfl rfl
theorem xim_X11_isSound : Cond.instanceMethod yX11_isSound ∈ xg := xg8 187 rfl rfl
theorem xse_X11_isSound : Cond.selects RX11 yX11_isSound yX11_isSound ∈ xg := xg8 188 rfl rfl
theorem xcd_X11_letterAt : Cond.code yX11_letterAt cX11_letterAt 3 (some .int) ∈ xg := xg4 42 rfl rfl
theorem xst_X11_letterAt : Cond.static yX11_letterAt ∈ xg := xg4 41 rfl rfl
theorem xcd_X11_areSigns : Cond.code yX11_areSigns cX11_areSigns 5 (some .boolean) ∈ xg := xg4 39 rfl rfl
theorem xst_X11_areSigns : Cond.static yX11_areSigns ∈ xg := xg4 38 rfl rfl
theorem xcd_X11_canTell : Cond.code yX11_canTell cX11_canTell 3 (some .boolean) ∈ xg := xg5 89 rfl rfl
theorem xst_X11_canTell : Cond.static yX11_canTell ∈ xg := xg5 88 rfl rfl
theorem xcd_X11_document : Cond.code yX11_document cX11_document 3 (some (.object "Treeletter$Tree")) ∈ xg := xg4 191 rfl rfl
theorem xim_X11_document : Cond.instanceMethod yX11_document ∈ xg := xg4 190 rfl rfl
theorem xse_X11_document : Cond.selects RX11 yX11_document yX11_document ∈ xg := xp2 9 (q := (⟨"Treeletter", "document", "(I)LTreeletter$Tree;"⟩, 16)) rfl rfl
theorem xcd_X11_documentWith : Cond.code yX11_documentWith cX11_documentWith 4 (some (.object "Treeletter$Tree")) ∈ xg := xg5 47 rfl rfl
theorem xim_X11_documentWith : Cond.instanceMethod yX11_documentWith ∈ xg := xg5 46 rfl rfl
theorem xse_X11_documentWith : Cond.selects RX11 yX11_documentWith yX11_documentWith ∈ xg := xp2 11 (q := (⟨"Treeletter", "documentWith", "(II)LTreeletter$Tree;"⟩, 16)) rfl rfl
theorem xcd_X11_loadPage : Cond.code yX11_loadPage cX11_loadPage 1 none ∈ xg := xg5 210 rfl rfl
theorem xim_X11_loadPage : Cond.instanceMethod yX11_loadPage ∈ xg := xg5 209 rfl rfl
theorem xse_X11_loadPage : Cond.selects RX11 yX11_loadPage yX11_loadPage ∈ xg := xp3 2 (q := (⟨"Treeletter", "loadPage", "()V"⟩, 16)) rfl rfl
theorem xcd_X11_admit : Cond.code yX11_admit cX11_admit 3 (some .int) ∈ xg := xg4 164 rfl rfl
theorem xim_X11_admit : Cond.instanceMethod yX11_admit ∈ xg := xg4 163 rfl rfl
theorem xse_X11_admit : Cond.selects RX11 yX11_admit yX11_admit ∈ xg := xp2 7 (q := (⟨"Treeletter", "\x61dmit", "(LTreeletter$Tree;)I"⟩, 16)) rfl rfl
theorem xcd_X11_admitAndWipe : Cond.code yX11_admitAndWipe cX11_admitAndWipe 3 (some .int) ∈ xg := xg6 167 rfl rfl
theorem xim_X11_admitAndWipe : Cond.instanceMethod yX11_admitAndWipe ∈ xg := xg6 166 rfl rfl
theorem xse_X11_admitAndWipe : Cond.selects RX11 yX11_admitAndWipe yX11_admitAndWipe ∈ xg := xp3 13 (q := (⟨"Treeletter", "admitAndWipe", "(LTreeletter$Tree;)I"⟩, 16)) rfl rfl
theorem xcd_X11_allNodes : Cond.code yX11_allNodes cX11_allNodes 3 (some .int) ∈ xg := xg8 182 rfl rfl
theorem xim_X11_allNodes : Cond.instanceMethod yX11_allNodes ∈ xg := xg8 181 rfl rfl
theorem xse_X11_allNodes : Cond.selects RX11 yX11_allNodes yX11_allNodes ∈ xg := xp6 4 (q := (⟨"Treeletter", "allNodes", "()I"⟩, 16)) rfl rfl
theorem xcd_X11_byColumns : Cond.code yX11_byColumns cX11_byColumns 7 none ∈ xg := xg8 79 rfl rfl
theorem xst_X11_byColumns : Cond.static yX11_byColumns ∈ xg := xg8 78 rfl rfl
theorem xcd_X11_addColumn : Cond.code yX11_addColumn cX11_addColumn 7 none ∈ xg := xg8 84 rfl rfl
theorem xst_X11_addColumn : Cond.static yX11_addColumn ∈ xg := xg8 83 rfl rfl
theorem xcd_X11_isByColumns : Cond.code yX11_isByColumns cX11_isByColumns 5 (some .boolean) ∈ xg := xg8 97 rfl rfl
theorem xst_X11_isByColumns : Cond.static yX11_isByColumns ∈ xg := xg8 96 rfl rfl
theorem xcd_X11_byRows : Cond.code yX11_byRows cX11_byRows 9 none ∈ xg := xg8 102 rfl rfl
theorem xst_X11_byRows : Cond.static yX11_byRows ∈ xg := xg8 101 rfl rfl
theorem xcd_X12_thrown : Cond.code yX12_thrown cX12_thrown 1 (some .int) ∈ xg := xg8 205 rfl rfl
theorem xim_X12_thrown : Cond.instanceMethod yX12_thrown ∈ xg := xg8 203 rfl rfl
theorem xse_X12_thrown : Cond.selects RX12 yX12_thrown yX12_thrown ∈ xg := xg8 204 rfl rfl
theorem xcd_X12_fails : Cond.code yX12_fails cX12_fails 3 (some .boolean) ∈ xg := xg10 232 rfl rfl
theorem xim_X12_fails : Cond.instanceMethod yX12_fails ∈ xg := xg10 231 rfl rfl
theorem xse_X12_fails : Cond.selects RX12 yX12_fails yX12_fails ∈ xg := xp8 4 (q := (⟨"TreeletterModel", "fails", "(ZI)Z"⟩, 86)) rfl rfl
theorem xcd_X12_in : Cond.code yX12_in cX12_in 3 (some .boolean) ∈ xg := xg9 121 rfl rfl
theorem xst_X12_in : Cond.static yX12_in ∈ xg := xg9 120 rfl rfl
theorem xcd_X12_at : Cond.code yX12_at cX12_at 2 (some .int) ∈ xg := xg9 102 rfl rfl
theorem xst_X12_at : Cond.static yX12_at ∈ xg := xg9 101 rfl rfl
theorem xcd_X12_kind : Cond.code yX12_kind cX12_kind 3 (some .int) ∈ xg := xg9 99 rfl rfl
theorem xim_X12_kind : Cond.instanceMethod yX12_kind ∈ xg := xg9 98 rfl rfl
theorem xse_X12_kind : Cond.selects RX12 yX12_kind yX12_kind ∈ xg := xp6 11 (q := (⟨"TreeletterModel", "kind", "(II)I"⟩, 86)) rfl rfl
theorem xcd_X12_part : Cond.code yX12_part cX12_part 4 (some .int) ∈ xg := xg9 125 rfl rfl
theorem xim_X12_part : Cond.instanceMethod yX12_part ∈ xg := xg9 124 rfl rfl
theorem xse_X12_part : Cond.selects RX12 yX12_part yX12_part ∈ xg := xp7 0 (q := (⟨"TreeletterModel", "part", "(III)I"⟩, 86)) rfl rfl
theorem xcd_X12_isDoc : Cond.code yX12_isDoc cX12_isDoc 2 (some .boolean) ∈ xg := xg11 21 rfl rfl
theorem xim_X12_isDoc : Cond.instanceMethod yX12_isDoc ∈ xg := xg11 20 rfl rfl
theorem xse_X12_isDoc : Cond.selects RX12 yX12_isDoc yX12_isDoc ∈ xg := xp8 6 (q := (⟨"TreeletterModel", "isDoc", "(I)Z"⟩, 86)) rfl rfl
theorem xcd_X12_isNode : Cond.code yX12_isNode cX12_isNode 3 (some .boolean) ∈ xg := xg11 64 rfl rfl
theorem xim_X12_isNode : Cond.instanceMethod yX12_isNode ∈ xg := xg11 63 rfl rfl
theorem xse_X12_isNode : Cond.selects RX12 yX12_isNode yX12_isNode ∈ xg := xp8 15 (q := (⟨"TreeletterModel", "isNode", "(II)Z"⟩, 86)) rfl rfl
theorem xcd_X12_begin : Cond.code yX12_begin cX12_begin 2 none ∈ xg := xg9 87 rfl rfl
theorem xim_X12_begin : Cond.instanceMethod yX12_begin ∈ xg := xg9 86 rfl rfl
theorem xse_X12_begin : Cond.selects RX12 yX12_begin yX12_begin ∈ xg := xp6 8 (q := (⟨"TreeletterModel", "begin", "(I)V"⟩, 86)) rfl rfl
theorem xcd_X12_added : Cond.code yX12_added cX12_added 5 (some .int) ∈ xg := xg9 137 rfl rfl
theorem xim_X12_added : Cond.instanceMethod yX12_added ∈ xg := xg9 136 rfl rfl
theorem xse_X12_added : Cond.selects RX12 yX12_added yX12_added ∈ xg := xp7 3 (q := (⟨"TreeletterModel", "added", "(II)I"⟩, 86)) rfl rfl
theorem xcd_X12_like : Cond.code yX12_like cX12_like 6 (some .int) ∈ xg := xg9 176 rfl rfl
theorem xim_X12_like : Cond.instanceMethod yX12_like ∈ xg := xg9 175 rfl rfl
theorem xse_X12_like : Cond.selects RX12 yX12_like yX12_like ∈ xg := xp7 12 (q := (⟨"TreeletterModel", "like", "(III)I"⟩, 86)) rfl rfl
theorem xcd_X12_copies : Cond.code yX12_copies cX12_copies 8 none ∈ xg := xg11 117 rfl rfl
theorem xim_X12_copies : Cond.instanceMethod yX12_copies ∈ xg := xg11 116 rfl rfl
theorem xse_X12_copies : Cond.selects RX12 yX12_copies yX12_copies ∈ xg := xp9 5 (q := (⟨"TreeletterModel", "copies", "(IIII)V"⟩, 86)) rfl rfl
theorem xcd_X12_endOf : Cond.code yX12_endOf cX12_endOf 3 (some .int) ∈ xg := xg9 188 rfl rfl
theorem xim_X12_endOf : Cond.instanceMethod yX12_endOf ∈ xg := xg9 187 rfl rfl
theorem xse_X12_endOf : Cond.selects RX12 yX12_endOf yX12_endOf ∈ xg := xp7 15 (q := (⟨"TreeletterModel", "endOf", "(II)I"⟩, 86)) rfl rfl
theorem xcd_X12_noKey : Cond.code yX12_noKey cX12_noKey 3 none ∈ xg := xg9 180 rfl rfl
theorem xim_X12_noKey : Cond.instanceMethod yX12_noKey ∈ xg := xg9 179 rfl rfl
theorem xse_X12_noKey : Cond.selects RX12 yX12_noKey yX12_noKey ∈ xg := xp7 13 (q := (⟨"TreeletterModel", "noKey", "(II)V"⟩, 86)) rfl rfl
theorem xcd_X12_link : Cond.code yX12_link cX12_link 5 none ∈ xg := xg9 168 rfl rfl
theorem xim_X12_link : Cond.instanceMethod yX12_link ∈ xg := xg9 167 rfl rfl
theorem xse_X12_link : Cond.selects RX12 yX12_link yX12_link ∈ xg := xp7 10 (q := (⟨"TreeletterModel", "link", "(I)V"⟩, 86)) rfl rfl
theorem xcd_X12_deepOf : Cond.code yX12_deepOf cX12_deepOf 7 (some .int) ∈ xg := xg11 68 rfl rfl
theorem xim_X12_deepOf : Cond.instanceMethod yX12_deepOf ∈ xg := xg11 67 rfl rfl
theorem xse_X12_deepOf : Cond.selects RX12 yX12_deepOf yX12_deepOf ∈ xg := xp9 0 (q := (⟨"TreeletterModel", "deepOf", "(II)I"⟩, 86)) rfl rfl
theorem xcd_X12_isWhole : Cond.code yX12_isWhole cX12_isWhole 2 (some .boolean) ∈ xg := xg11 121 rfl rfl
theorem xim_X12_isWhole : Cond.instanceMethod yX12_isWhole ∈ xg := xg11 120 rfl rfl
theorem xse_X12_isWhole : Cond.selects RX12 yX12_isWhole yX12_isWhole ∈ xg := xp9 6 (q := (⟨"TreeletterModel", "isWhole", "(I)Z"⟩, 86)) rfl rfl
theorem xcd_X12_keeps : Cond.code yX12_keeps cX12_keeps 3 (some .int) ∈ xg := xg11 13 rfl rfl
theorem xim_X12_keeps : Cond.instanceMethod yX12_keeps ∈ xg := xg11 12 rfl rfl
theorem xse_X12_keeps : Cond.selects RX12 yX12_keeps yX12_keeps ∈ xg := xp8 5 (q := (⟨"TreeletterModel", "keeps", "(I)I"⟩, 86)) rfl rfl
theorem xcd_X12_becomes : Cond.code yX12_becomes cX12_becomes 4 none ∈ xg := xg9 204 rfl rfl
theorem xim_X12_becomes : Cond.instanceMethod yX12_becomes ∈ xg := xg9 203 rfl rfl
theorem xse_X12_becomes : Cond.selects RX12 yX12_becomes yX12_becomes ∈ xg := xp8 3 (q := (⟨"TreeletterModel", "becomes", "(II)V"⟩, 86)) rfl rfl
theorem xcd_X12_childAt : Cond.code yX12_childAt cX12_childAt 6 (some .int) ∈ xg := xg11 169 rfl rfl
theorem xim_X12_childAt : Cond.instanceMethod yX12_childAt ∈ xg := xg11 168 rfl rfl
theorem xse_X12_childAt : Cond.selects RX12 yX12_childAt yX12_childAt ∈ xg := xp10 0 (q := (⟨"TreeletterModel", "childAt", "(III)I"⟩, 86)) rfl rfl
theorem xcd_X12_byKeys : Cond.code yX12_byKeys cX12_byKeys 8 (some .int) ∈ xg := xg9 192 rfl rfl
theorem xim_X12_byKeys : Cond.instanceMethod yX12_byKeys ∈ xg := xg9 191 rfl rfl
theorem xse_X12_byKeys : Cond.selects RX12 yX12_byKeys yX12_byKeys ∈ xg := xp8 0 (q := (⟨"TreeletterModel", "byKeys", "(IIII)I"⟩, 86)) rfl rfl
theorem xcd_X12_childLike : Cond.code yX12_childLike cX12_childLike 7 (some .int) ∈ xg := xg12 61 rfl rfl
theorem xim_X12_childLike : Cond.instanceMethod yX12_childLike ∈ xg := xg12 60 rfl rfl
theorem xse_X12_childLike : Cond.selects RX12 yX12_childLike yX12_childLike ∈ xg := xp11 11 (q := (⟨"TreeletterModel", "childLike", "(IIII)I"⟩, 86)) rfl rfl
theorem xcd_X12_childByWord : Cond.code yX12_childByWord cX12_childByWord 7 (some .int) ∈ xg := xg11 161 rfl rfl
theorem xim_X12_childByWord : Cond.instanceMethod yX12_childByWord ∈ xg := xg11 160 rfl rfl
theorem xse_X12_childByWord : Cond.selects RX12 yX12_childByWord yX12_childByWord ∈ xg := xp9 14 (q := (⟨"TreeletterModel", "childByWord", "(II)I"⟩, 86)) rfl rfl
theorem xcd_X12_says : Cond.code yX12_says cX12_says 5 none ∈ xg := xg9 154 rfl rfl
theorem xim_X12_says : Cond.instanceMethod yX12_says ∈ xg := xg9 153 rfl rfl
theorem xse_X12_says : Cond.selects RX12 yX12_says yX12_says ∈ xg := xp7 7 (q := (⟨"TreeletterModel", "says", "(J)V"⟩, 86)) rfl rfl
theorem xcd_X12_childNamed : Cond.code yX12_childNamed cX12_childNamed 5 (some .int) ∈ xg := xg12 2 rfl rfl
theorem xim_X12_childNamed : Cond.instanceMethod yX12_childNamed ∈ xg := xg12 1 rfl rfl
theorem xse_X12_childNamed : Cond.selects RX12 yX12_childNamed yX12_childNamed ∈ xg := xp10 14 (q := (⟨"TreeletterModel", "childNamed", "(IIJ)I"⟩, 86)) rfl rfl
theorem xcd_X12_isText : Cond.code yX12_isText cX12_isText 7 (some .boolean) ∈ xg := xg12 11 rfl rfl
theorem xim_X12_isText : Cond.instanceMethod yX12_isText ∈ xg := xg12 10 rfl rfl
theorem xse_X12_isText : Cond.selects RX12 yX12_isText yX12_isText ∈ xg := xp11 0 (q := (⟨"TreeletterModel", "isText", "(IIJ)Z"⟩, 86)) rfl rfl
theorem xcd_X12_keyIs : Cond.code yX12_keyIs cX12_keyIs 4 none ∈ xg := xg11 193 rfl rfl
theorem xim_X12_keyIs : Cond.instanceMethod yX12_keyIs ∈ xg := xg11 192 rfl rfl
theorem xse_X12_keyIs : Cond.selects RX12 yX12_keyIs yX12_keyIs ∈ xg := xp10 4 (q := (⟨"TreeletterModel", "keyIs", "(II)V"⟩, 86)) rfl rfl
theorem xcd_X12_init : Cond.code yX12_init cX12_init 3 none ∈ xg := xg8 210 rfl rfl
theorem xim_X12_init : Cond.instanceMethod yX12_init ∈ xg := xg8 209 rfl rfl
theorem xcd_X12_write : Cond.code yX12_write cX12_write 7 (some .int) ∈ xg := xg10 228 rfl rfl
theorem xim_X12_write : Cond.instanceMethod yX12_write ∈ xg := xg10 226 rfl rfl
theorem xse_X12_write : Cond.selects RX12 yX12_write yX12_write ∈ xg := xg10 227 rfl rfl
theorem xcd_X12_wipe : Cond.code yX12_wipe cX12_wipe 2 (some .int) ∈ xg := xg10 236 rfl rfl
theorem xim_X12_wipe : Cond.instanceMethod yX12_wipe ∈ xg := xg10 234 rfl rfl
theorem xse_X12_wipe : Cond.selects RX12 yX12_wipe yX12_wipe ∈ xg := xg10 235 rfl rfl
theorem xcd_X12_paper : Cond.code yX12_paper cX12_paper 6 (some .long) ∈ xg := xg11 0 rfl rfl
theorem xim_X12_paper : Cond.instanceMethod yX12_paper ∈ xg := xg10 238 rfl rfl
theorem xse_X12_paper : Cond.selects RX12 yX12_paper yX12_paper ∈ xg := xg10 239 rfl rfl
theorem xcd_X12_isBlank : Cond.code yX12_isBlank cX12_isBlank 1 (some .boolean) ∈ xg := xg9 91 rfl rfl
theorem xim_X12_isBlank : Cond.instanceMethod yX12_isBlank ∈ xg := xg9 90 rfl rfl
theorem xse_X12_isBlank : Cond.selects RX12 yX12_isBlank yX12_isBlank ∈ xg := xp6 9 (q := (⟨"TreeletterModel", "isBlank", "()Z"⟩, 86)) rfl rfl
theorem xcd_X12_sign : Cond.code yX12_sign cX12_sign 1 (some .int) ∈ xg := xg9 95 rfl rfl
theorem xim_X12_sign : Cond.instanceMethod yX12_sign ∈ xg := xg9 94 rfl rfl
theorem xse_X12_sign : Cond.selects RX12 yX12_sign yX12_sign ∈ xg := xp6 10 (q := (⟨"TreeletterModel", "sign", "()I"⟩, 86)) rfl rfl
theorem xcd_X12_isFigure : Cond.code yX12_isFigure cX12_isFigure 1 (some .boolean) ∈ xg := xg9 133 rfl rfl
theorem xim_X12_isFigure : Cond.instanceMethod yX12_isFigure ∈ xg := xg9 132 rfl rfl
theorem xse_X12_isFigure : Cond.selects RX12 yX12_isFigure yX12_isFigure ∈ xg := xp7 2 (q := (⟨"TreeletterModel", "isFigure", "()Z"⟩, 86)) rfl rfl
theorem xcd_X12_hex : Cond.code yX12_hex cX12_hex 2 (some .int) ∈ xg := xg9 118 rfl rfl
theorem xim_X12_hex : Cond.instanceMethod yX12_hex ∈ xg := xg9 117 rfl rfl
theorem xse_X12_hex : Cond.selects RX12 yX12_hex yX12_hex ∈ xg := xp6 15 (q := (⟨"TreeletterModel", "hex", "(I)I"⟩, 86)) rfl rfl
theorem xcd_X12_readsLetters : Cond.code yX12_readsLetters cX12_readsLetters 4 (some .boolean) ∈ xg := xg9 150 rfl rfl
theorem xim_X12_readsLetters : Cond.instanceMethod yX12_readsLetters ∈ xg := xg9 149 rfl rfl
theorem xse_X12_readsLetters : Cond.selects RX12 yX12_readsLetters yX12_readsLetters ∈ xg := xp7 6 (q := (⟨"TreeletterModel", "readsLetters", "(J)Z"⟩, 86)) rfl rfl
theorem xcd_X12_escaped : Cond.code yX12_escaped cX12_escaped 2 (some .int) ∈ xg := xg9 114 rfl rfl
theorem xim_X12_escaped : Cond.instanceMethod yX12_escaped ∈ xg := xg9 113 rfl rfl
theorem xse_X12_escaped : Cond.selects RX12 yX12_escaped yX12_escaped ∈ xg := xp6 14 (q := (⟨"TreeletterModel", "escaped", "(I)I"⟩, 86)) rfl rfl
theorem xcd_X12_readsText : Cond.code yX12_readsText cX12_readsText 5 (some .boolean) ∈ xg := xg9 110 rfl rfl
theorem xim_X12_readsText : Cond.instanceMethod yX12_readsText ∈ xg := xg9 109 rfl rfl
theorem xse_X12_readsText : Cond.selects RX12 yX12_readsText yX12_readsText ∈ xg := xp6 13 (q := (⟨"TreeletterModel", "readsText", "(I)Z"⟩, 86)) rfl rfl
theorem xcd_X12_readsNumber : Cond.code yX12_readsNumber cX12_readsNumber 11 (some .boolean) ∈ xg := xg9 160 rfl rfl
theorem xim_X12_readsNumber : Cond.instanceMethod yX12_readsNumber ∈ xg := xg9 159 rfl rfl
theorem xse_X12_readsNumber : Cond.selects RX12 yX12_readsNumber yX12_readsNumber ∈ xg := xp7 8 (q := (⟨"TreeletterModel", "readsNumber", "(I)Z"⟩, 86)) rfl rfl
theorem xcd_X12_isNumber : Cond.code yX12_isNumber cX12_isNumber 10 (some .boolean) ∈ xg := xg9 164 rfl rfl
theorem xim_X12_isNumber : Cond.instanceMethod yX12_isNumber ∈ xg := xg9 163 rfl rfl
theorem xse_X12_isNumber : Cond.selects RX12 yX12_isNumber yX12_isNumber ∈ xg := xp7 9 (q := (⟨"TreeletterModel", "isNumber", "(IZII)Z"⟩, 86)) rfl rfl
theorem xcd_X12_textIs : Cond.code yX12_textIs cX12_textIs 4 none ∈ xg := xg9 145 rfl rfl
theorem xim_X12_textIs : Cond.instanceMethod yX12_textIs ∈ xg := xg9 144 rfl rfl
theorem xse_X12_textIs : Cond.selects RX12 yX12_textIs yX12_textIs ∈ xg := xp7 5 (q := (⟨"TreeletterModel", "textIs", "(II)V"⟩, 86)) rfl rfl
theorem xcd_X12_readsValue : Cond.code yX12_readsValue cX12_readsValue 4 (some .boolean) ∈ xg := xg9 141 rfl rfl
theorem xim_X12_readsValue : Cond.instanceMethod yX12_readsValue ∈ xg := xg9 140 rfl rfl
theorem xse_X12_readsValue : Cond.selects RX12 yX12_readsValue yX12_readsValue ∈ xg := xp7 4 (q := (⟨"TreeletterModel", "readsValue", "(I)Z"⟩, 86)) rfl rfl
theorem xcd_X12_kindAhead : Cond.code yX12_kindAhead cX12_kindAhead 2 (some .int) ∈ xg := xg9 129 rfl rfl
theorem xim_X12_kindAhead : Cond.instanceMethod yX12_kindAhead ∈ xg := xg9 128 rfl rfl
theorem xse_X12_kindAhead : Cond.selects RX12 yX12_kindAhead yX12_kindAhead ∈ xg := xp7 1 (q := (⟨"TreeletterModel", "kindAhead", "()I"⟩, 86)) rfl rfl
theorem xcd_X12_readsKey : Cond.code yX12_readsKey cX12_readsKey 6 (some .boolean) ∈ xg := xg9 106 rfl rfl
theorem xim_X12_readsKey : Cond.instanceMethod yX12_readsKey ∈ xg := xg9 105 rfl rfl
theorem xse_X12_readsKey : Cond.selects RX12 yX12_readsKey yX12_readsKey ∈ xg := xp6 12 (q := (⟨"TreeletterModel", "readsKey", "(I)Z"⟩, 86)) rfl rfl
theorem xcd_X12_reads : Cond.code yX12_reads cX12_reads 11 (some .int) ∈ xg := xg9 83 rfl rfl
theorem xim_X12_reads : Cond.instanceMethod yX12_reads ∈ xg := xg9 82 rfl rfl
theorem xse_X12_reads : Cond.selects RX12 yX12_reads yX12_reads ∈ xg := xp6 7 (q := (⟨"TreeletterModel", "reads", "(I)I"⟩, 86)) rfl rfl
theorem xcd_X12_rule : Cond.code yX12_rule cX12_rule 3 (some .int) ∈ xg := xg11 5 rfl rfl
theorem xim_X12_rule : Cond.instanceMethod yX12_rule ∈ xg := xg11 3 rfl rfl
theorem xse_X12_rule : Cond.selects RX12 yX12_rule yX12_rule ∈ xg := xg11 4 rfl rfl
theorem xcd_X12_read : Cond.code yX12_read cX12_read 2 (some .int) ∈ xg := xg11 9 rfl rfl
theorem xim_X12_read : Cond.instanceMethod yX12_read ∈ xg := xg11 7 rfl rfl
theorem xse_X12_read : Cond.selects RX12 yX12_read yX12_read ∈ xg := xg11 8 rfl rfl
theorem xcd_X12_nextChild : Cond.code yX12_nextChild cX12_nextChild 9 (some .int) ∈ xg := xg9 184 rfl rfl
theorem xim_X12_nextChild : Cond.instanceMethod yX12_nextChild ∈ xg := xg9 183 rfl rfl
theorem xse_X12_nextChild : Cond.selects RX12 yX12_nextChild yX12_nextChild ∈ xg := xp7 14 (q := (⟨"TreeletterModel", "nextChild", "(IIII)I"⟩, 86)) rfl rfl
theorem xcd_X12_isLater : Cond.code yX12_isLater cX12_isLater 5 (some .boolean) ∈ xg := xg9 196 rfl rfl
theorem xim_X12_isLater : Cond.instanceMethod yX12_isLater ∈ xg := xg9 195 rfl rfl
theorem xse_X12_isLater : Cond.selects RX12 yX12_isLater yX12_isLater ∈ xg := xp8 1 (q := (⟨"TreeletterModel", "isLater", "(III)Z"⟩, 86)) rfl rfl
theorem xcd_X12_lastLike : Cond.code yX12_lastLike cX12_lastLike 6 (some .int) ∈ xg := xg9 200 rfl rfl
theorem xim_X12_lastLike : Cond.instanceMethod yX12_lastLike ∈ xg := xg9 199 rfl rfl
theorem xse_X12_lastLike : Cond.selects RX12 yX12_lastLike yX12_lastLike ∈ xg := xp8 2 (q := (⟨"TreeletterModel", "lastLike", "(III)I"⟩, 86)) rfl rfl
theorem xcd_X12_choose : Cond.code yX12_choose cX12_choose 10 none ∈ xg := xg9 172 rfl rfl
theorem xim_X12_choose : Cond.instanceMethod yX12_choose ∈ xg := xg9 171 rfl rfl
theorem xse_X12_choose : Cond.selects RX12 yX12_choose yX12_choose ∈ xg := xp7 11 (q := (⟨"TreeletterModel", "choose", "(IIII)V"⟩, 86)) rfl rfl
theorem xcd_X12_puts : Cond.code yX12_puts cX12_puts 3 none ∈ xg := xg11 37 rfl rfl
theorem xim_X12_puts : Cond.instanceMethod yX12_puts ∈ xg := xg11 36 rfl rfl
theorem xse_X12_puts : Cond.selects RX12 yX12_puts yX12_puts ∈ xg := xp8 10 (q := (⟨"TreeletterModel", "puts", "(II)V"⟩, 86)) rfl rfl
theorem xcd_X12_putsLetters : Cond.code yX12_putsLetters cX12_putsLetters 6 none ∈ xg := xg11 33 rfl rfl
theorem xim_X12_putsLetters : Cond.instanceMethod yX12_putsLetters ∈ xg := xg11 32 rfl rfl
theorem xse_X12_putsLetters : Cond.selects RX12 yX12_putsLetters yX12_putsLetters ∈ xg := xp8 9 (q := (⟨"TreeletterModel", "putsLetters", "(IJ)V"⟩, 86)) rfl rfl
theorem xcd_X12_hexSign : Cond.code yX12_hexSign cX12_hexSign 1 (some .int) ∈ xg := xg11 44 rfl rfl
theorem xst_X12_hexSign : Cond.static yX12_hexSign ∈ xg := xg11 43 rfl rfl
theorem xcd_X12_putsQuoted : Cond.code yX12_putsQuoted cX12_putsQuoted 6 none ∈ xg := xg11 41 rfl rfl
theorem xim_X12_putsQuoted : Cond.instanceMethod yX12_putsQuoted ∈ xg := xg11 40 rfl rfl
theorem xse_X12_putsQuoted : Cond.selects RX12 yX12_putsQuoted yX12_putsQuoted ∈ xg := xp8 11 (q := (⟨"TreeletterModel", "putsQuoted", "(III)V"⟩, 86)) rfl rfl
theorem xcd_X12_putsInt : Cond.code yX12_putsInt cX12_putsInt 4 none ∈ xg := xg11 48 rfl rfl
theorem xim_X12_putsInt : Cond.instanceMethod yX12_putsInt ∈ xg := xg11 47 rfl rfl
theorem xse_X12_putsInt : Cond.selects RX12 yX12_putsInt yX12_putsInt ∈ xg := xp8 12 (q := (⟨"TreeletterModel", "putsInt", "(II)V"⟩, 86)) rfl rfl
theorem xcd_X12_putsScalar : Cond.code yX12_putsScalar cX12_putsScalar 7 none ∈ xg := xg11 29 rfl rfl
theorem xim_X12_putsScalar : Cond.instanceMethod yX12_putsScalar ∈ xg := xg11 28 rfl rfl
theorem xse_X12_putsScalar : Cond.selects RX12 yX12_putsScalar yX12_putsScalar ∈ xg := xp8 8 (q := (⟨"TreeletterModel", "putsScalar", "(III)V"⟩, 86)) rfl rfl
theorem xcd_X12_putsLine : Cond.code yX12_putsLine cX12_putsLine 4 none ∈ xg := xg11 52 rfl rfl
theorem xim_X12_putsLine : Cond.instanceMethod yX12_putsLine ∈ xg := xg11 51 rfl rfl
theorem xse_X12_putsLine : Cond.selects RX12 yX12_putsLine yX12_putsLine ∈ xg := xp8 13 (q := (⟨"TreeletterModel", "putsLine", "(II)V"⟩, 86)) rfl rfl
theorem xcd_X12_writes : Cond.code yX12_writes cX12_writes 8 none ∈ xg := xg11 25 rfl rfl
theorem xim_X12_writes : Cond.instanceMethod yX12_writes ∈ xg := xg11 24 rfl rfl
theorem xse_X12_writes : Cond.selects RX12 yX12_writes yX12_writes ∈ xg := xp8 7 (q := (⟨"TreeletterModel", "writes", "(IIII)V"⟩, 86)) rfl rfl
theorem xcd_X12_onPaper : Cond.code yX12_onPaper cX12_onPaper 2 (some .int) ∈ xg := xg11 56 rfl rfl
theorem xim_X12_onPaper : Cond.instanceMethod yX12_onPaper ∈ xg := xg11 55 rfl rfl
theorem xse_X12_onPaper : Cond.selects RX12 yX12_onPaper yX12_onPaper ∈ xg := xp8 14 (q := (⟨"TreeletterModel", "onPaper", "()I"⟩, 86)) rfl rfl
theorem xcd_X12_print : Cond.code yX12_print cX12_print 3 (some .int) ∈ xg := xg11 17 rfl rfl
theorem xim_X12_print : Cond.instanceMethod yX12_print ∈ xg := xg11 15 rfl rfl
theorem xse_X12_print : Cond.selects RX12 yX12_print yX12_print ∈ xg := xg11 16 rfl rfl
theorem xcd_X12_areEqual : Cond.code yX12_areEqual cX12_areEqual 7 (some .boolean) ∈ xg := xg11 88 rfl rfl
theorem xim_X12_areEqual : Cond.instanceMethod yX12_areEqual ∈ xg := xg11 87 rfl rfl
theorem xse_X12_areEqual : Cond.selects RX12 yX12_areEqual yX12_areEqual ∈ xg := xp9 3 (q := (⟨"TreeletterModel", "areEqual", "(IIII)Z"⟩, 86)) rfl rfl
theorem xcd_X12_node : Cond.code yX12_node cX12_node 5 (some .int) ∈ xg := xg11 60 rfl rfl
theorem xim_X12_node : Cond.instanceMethod yX12_node ∈ xg := xg11 58 rfl rfl
theorem xse_X12_node : Cond.selects RX12 yX12_node yX12_node ∈ xg := xg11 59 rfl rfl
theorem xcd_X12_putsPath : Cond.code yX12_putsPath cX12_putsPath 5 none ∈ xg := xg11 76 rfl rfl
theorem xim_X12_putsPath : Cond.instanceMethod yX12_putsPath ∈ xg := xg11 75 rfl rfl
theorem xse_X12_putsPath : Cond.selects RX12 yX12_putsPath yX12_putsPath ∈ xg := xp9 1 (q := (⟨"TreeletterModel", "putsPath", "(II)V"⟩, 86)) rfl rfl
theorem xcd_X12_putsStep : Cond.code yX12_putsStep cX12_putsStep 5 none ∈ xg := xg11 80 rfl rfl
theorem xim_X12_putsStep : Cond.instanceMethod yX12_putsStep ∈ xg := xg11 79 rfl rfl
theorem xse_X12_putsStep : Cond.selects RX12 yX12_putsStep yX12_putsStep ∈ xg := xp9 2 (q := (⟨"TreeletterModel", "putsStep", "(II)V"⟩, 86)) rfl rfl
theorem xcd_X12_tell : Cond.code yX12_tell cX12_tell 7 (some .int) ∈ xg := xg11 72 rfl rfl
theorem xim_X12_tell : Cond.instanceMethod yX12_tell ∈ xg := xg11 70 rfl rfl
theorem xse_X12_tell : Cond.selects RX12 yX12_tell yX12_tell ∈ xg := xg11 71 rfl rfl
theorem xcd_X12_equal : Cond.code yX12_equal cX12_equal 3 (some .boolean) ∈ xg := xg11 84 rfl rfl
theorem xim_X12_equal : Cond.instanceMethod yX12_equal ∈ xg := xg11 82 rfl rfl
theorem xse_X12_equal : Cond.selects RX12 yX12_equal yX12_equal ∈ xg := xg11 83 rfl rfl
theorem xcd_X12_compared : Cond.code yX12_compared cX12_compared 10 (some .int) ∈ xg := xg11 96 rfl rfl
theorem xim_X12_compared : Cond.instanceMethod yX12_compared ∈ xg := xg11 95 rfl rfl
theorem xse_X12_compared : Cond.selects RX12 yX12_compared yX12_compared ∈ xg := xp9 4 (q := (⟨"TreeletterModel", "compared", "(IIII)I"⟩, 86)) rfl rfl
theorem xcd_X12_compare : Cond.code yX12_compare cX12_compare 3 (some .int) ∈ xg := xg11 92 rfl rfl
theorem xim_X12_compare : Cond.instanceMethod yX12_compare ∈ xg := xg11 90 rfl rfl
theorem xse_X12_compare : Cond.selects RX12 yX12_compare yX12_compare ∈ xg := xg11 91 rfl rfl
theorem xcd_X12_digest : Cond.code yX12_digest cX12_digest 5 (some .int) ∈ xg := xg11 100 rfl rfl
theorem xim_X12_digest : Cond.instanceMethod yX12_digest ∈ xg := xg11 98 rfl rfl
theorem xse_X12_digest : Cond.selects RX12 yX12_digest yX12_digest ∈ xg := xg11 99 rfl rfl
theorem xcd_X12_take : Cond.code yX12_take cX12_take 3 (some .int) ∈ xg := xg11 105 rfl rfl
theorem xim_X12_take : Cond.instanceMethod yX12_take ∈ xg := xg11 103 rfl rfl
theorem xse_X12_take : Cond.selects RX12 yX12_take yX12_take ∈ xg := xg11 104 rfl rfl
theorem xcd_X12_sorted : Cond.code yX12_sorted cX12_sorted 2 (some .int) ∈ xg := xg11 109 rfl rfl
theorem xim_X12_sorted : Cond.instanceMethod yX12_sorted ∈ xg := xg11 107 rfl rfl
theorem xse_X12_sorted : Cond.selects RX12 yX12_sorted yX12_sorted ∈ xg := xg11 108 rfl rfl
theorem xcd_X12_both : Cond.code yX12_both cX12_both 4 (some .int) ∈ xg := xg11 113 rfl rfl
theorem xim_X12_both : Cond.instanceMethod yX12_both ∈ xg := xg11 111 rfl rfl
theorem xse_X12_both : Cond.selects RX12 yX12_both yX12_both ∈ xg := xg11 112 rfl rfl
theorem xcd_X12_undo : Cond.code yX12_undo cX12_undo 1 (some .int) ∈ xg := xg11 125 rfl rfl
theorem xim_X12_undo : Cond.instanceMethod yX12_undo ∈ xg := xg11 123 rfl rfl
theorem xse_X12_undo : Cond.selects RX12 yX12_undo yX12_undo ∈ xg := xg11 124 rfl rfl
theorem xcd_X12_pathOfPage : Cond.code yX12_pathOfPage cX12_pathOfPage 2 none ∈ xg := xg11 133 rfl rfl
theorem xim_X12_pathOfPage : Cond.instanceMethod yX12_pathOfPage ∈ xg := xg11 132 rfl rfl
theorem xse_X12_pathOfPage : Cond.selects RX12 yX12_pathOfPage yX12_pathOfPage ∈ xg := xp9 7 (q := (⟨"TreeletterModel", "pathOfPage", "()V"⟩, 86)) rfl rfl
theorem xcd_X12_pathOf : Cond.code yX12_pathOf cX12_pathOf 4 none ∈ xg := xg12 7 rfl rfl
theorem xim_X12_pathOf : Cond.instanceMethod yX12_pathOf ∈ xg := xg12 6 rfl rfl
theorem xse_X12_pathOf : Cond.selects RX12 yX12_pathOf yX12_pathOf ∈ xg := xp10 15 (q := (⟨"TreeletterModel", "pathOf", "(II)V"⟩, 86)) rfl rfl
theorem xcd_X12_isPath : Cond.code yX12_isPath cX12_isPath 3 (some .boolean) ∈ xg := xg11 137 rfl rfl
theorem xim_X12_isPath : Cond.instanceMethod yX12_isPath ∈ xg := xg11 136 rfl rfl
theorem xse_X12_isPath : Cond.selects RX12 yX12_isPath yX12_isPath ∈ xg := xp9 8 (q := (⟨"TreeletterModel", "isPath", "()Z"⟩, 86)) rfl rfl
theorem xcd_X12_step : Cond.code yX12_step cX12_step 2 none ∈ xg := xg11 141 rfl rfl
theorem xim_X12_step : Cond.instanceMethod yX12_step ∈ xg := xg11 140 rfl rfl
theorem xse_X12_step : Cond.selects RX12 yX12_step yX12_step ∈ xg := xp9 9 (q := (⟨"TreeletterModel", "step", "(I)V"⟩, 86)) rfl rfl
theorem xcd_X12_wordOf : Cond.code yX12_wordOf cX12_wordOf 5 none ∈ xg := xg11 153 rfl rfl
theorem xim_X12_wordOf : Cond.instanceMethod yX12_wordOf ∈ xg := xg11 152 rfl rfl
theorem xse_X12_wordOf : Cond.selects RX12 yX12_wordOf yX12_wordOf ∈ xg := xp9 12 (q := (⟨"TreeletterModel", "wordOf", "(II)V"⟩, 86)) rfl rfl
theorem xcd_X12_figured : Cond.code yX12_figured cX12_figured 4 (some .int) ∈ xg := xg11 165 rfl rfl
theorem xim_X12_figured : Cond.instanceMethod yX12_figured ∈ xg := xg11 164 rfl rfl
theorem xse_X12_figured : Cond.selects RX12 yX12_figured yX12_figured ∈ xg := xp9 15 (q := (⟨"TreeletterModel", "figured", "(I)I"⟩, 86)) rfl rfl
theorem xcd_X12_stepped : Cond.code yX12_stepped cX12_stepped 7 (some .int) ∈ xg := xg11 157 rfl rfl
theorem xim_X12_stepped : Cond.instanceMethod yX12_stepped ∈ xg := xg11 156 rfl rfl
theorem xse_X12_stepped : Cond.selects RX12 yX12_stepped yX12_stepped ∈ xg := xp9 13 (q := (⟨"TreeletterModel", "stepped", "(IIZ)I"⟩, 86)) rfl rfl
theorem xcd_X12_plain : Cond.code yX12_plain cX12_plain 5 (some .int) ∈ xg := xg11 201 rfl rfl
theorem xim_X12_plain : Cond.instanceMethod yX12_plain ∈ xg := xg11 200 rfl rfl
theorem xse_X12_plain : Cond.selects RX12 yX12_plain yX12_plain ∈ xg := xp10 6 (q := (⟨"TreeletterModel", "plain", "(II)I"⟩, 86)) rfl rfl
theorem xcd_X12_meets : Cond.code yX12_meets cX12_meets 2 none ∈ xg := xg11 149 rfl rfl
theorem xim_X12_meets : Cond.instanceMethod yX12_meets ∈ xg := xg11 148 rfl rfl
theorem xse_X12_meets : Cond.selects RX12 yX12_meets yX12_meets ∈ xg := xp9 11 (q := (⟨"TreeletterModel", "meets", "(I)V"⟩, 86)) rfl rfl
theorem xcd_X12_isSo : Cond.code yX12_isSo cX12_isSo 7 (some .boolean) ∈ xg := xg11 173 rfl rfl
theorem xim_X12_isSo : Cond.instanceMethod yX12_isSo ∈ xg := xg11 172 rfl rfl
theorem xse_X12_isSo : Cond.selects RX12 yX12_isSo yX12_isSo ∈ xg := xp10 1 (q := (⟨"TreeletterModel", "isSo", "(III)Z"⟩, 86)) rfl rfl
theorem xcd_X12_selectsBy : Cond.code yX12_selectsBy cX12_selectsBy 8 none ∈ xg := xg11 145 rfl rfl
theorem xim_X12_selectsBy : Cond.instanceMethod yX12_selectsBy ∈ xg := xg11 144 rfl rfl
theorem xse_X12_selectsBy : Cond.selects RX12 yX12_selectsBy yX12_selectsBy ∈ xg := xp9 10 (q := (⟨"TreeletterModel", "selectsBy", "(II)V"⟩, 86)) rfl rfl
theorem xcd_X12_select : Cond.code yX12_select cX12_select 4 (some .int) ∈ xg := xg11 129 rfl rfl
theorem xim_X12_select : Cond.instanceMethod yX12_select ∈ xg := xg11 127 rfl rfl
theorem xse_X12_select : Cond.selects RX12 yX12_select yX12_select ∈ xg := xg11 128 rfl rfl
theorem xcd_X12_find : Cond.code yX12_find cX12_find 2 (some .int) ∈ xg := xg11 177 rfl rfl
theorem xim_X12_find : Cond.instanceMethod yX12_find ∈ xg := xg11 175 rfl rfl
theorem xse_X12_find : Cond.selects RX12 yX12_find yX12_find ∈ xg := xg11 176 rfl rfl
theorem xcd_X12_brings : Cond.code yX12_brings cX12_brings 6 none ∈ xg := xg11 189 rfl rfl
theorem xim_X12_brings : Cond.instanceMethod yX12_brings ∈ xg := xg11 188 rfl rfl
theorem xse_X12_brings : Cond.selects RX12 yX12_brings yX12_brings ∈ xg := xp10 3 (q := (⟨"TreeletterModel", "brings", "(IIIZ)V"⟩, 86)) rfl rfl
theorem xcd_X12_wordOfKey : Cond.code yX12_wordOfKey cX12_wordOfKey 4 none ∈ xg := xg11 209 rfl rfl
theorem xim_X12_wordOfKey : Cond.instanceMethod yX12_wordOfKey ∈ xg := xg11 208 rfl rfl
theorem xse_X12_wordOfKey : Cond.selects RX12 yX12_wordOfKey yX12_wordOfKey ∈ xg := xp10 8 (q := (⟨"TreeletterModel", "wordOfKey", "(II)V"⟩, 86)) rfl rfl
theorem xcd_X12_replaced : Cond.code yX12_replaced cX12_replaced 6 none ∈ xg := xg11 205 rfl rfl
theorem xim_X12_replaced : Cond.instanceMethod yX12_replaced ∈ xg := xg11 204 rfl rfl
theorem xse_X12_replaced : Cond.selects RX12 yX12_replaced yX12_replaced ∈ xg := xp10 7 (q := (⟨"TreeletterModel", "replaced", "(IIIII)V"⟩, 86)) rfl rfl
theorem xcd_X12_taken : Cond.code yX12_taken cX12_taken 4 none ∈ xg := xg11 221 rfl rfl
theorem xim_X12_taken : Cond.instanceMethod yX12_taken ∈ xg := xg11 220 rfl rfl
theorem xse_X12_taken : Cond.selects RX12 yX12_taken yX12_taken ∈ xg := xp10 10 (q := (⟨"TreeletterModel", "taken", "(III)V"⟩, 86)) rfl rfl
theorem xcd_X12_lastStep : Cond.code yX12_lastStep cX12_lastStep 2 (some .int) ∈ xg := xg11 197 rfl rfl
theorem xim_X12_lastStep : Cond.instanceMethod yX12_lastStep ∈ xg := xg11 196 rfl rfl
theorem xse_X12_lastStep : Cond.selects RX12 yX12_lastStep yX12_lastStep ∈ xg := xp10 5 (q := (⟨"TreeletterModel", "lastStep", "()I"⟩, 86)) rfl rfl
theorem xcd_X12_canPut : Cond.code yX12_canPut cX12_canPut 10 (some .boolean) ∈ xg := xg11 185 rfl rfl
theorem xim_X12_canPut : Cond.instanceMethod yX12_canPut ∈ xg := xg11 184 rfl rfl
theorem xse_X12_canPut : Cond.selects RX12 yX12_canPut yX12_canPut ∈ xg := xp10 2 (q := (⟨"TreeletterModel", "canPut", "(IIII)Z"⟩, 86)) rfl rfl
theorem xcd_X12_canCut : Cond.code yX12_canCut cX12_canCut 4 (some .boolean) ∈ xg := xg11 217 rfl rfl
theorem xim_X12_canCut : Cond.instanceMethod yX12_canCut ∈ xg := xg11 216 rfl rfl
theorem xse_X12_canCut : Cond.selects RX12 yX12_canCut yX12_canCut ∈ xg := xp10 9 (q := (⟨"TreeletterModel", "canCut", "(II)Z"⟩, 86)) rfl rfl
theorem xcd_X12_put : Cond.code yX12_put cX12_put 3 (some .int) ∈ xg := xg11 181 rfl rfl
theorem xim_X12_put : Cond.instanceMethod yX12_put ∈ xg := xg11 179 rfl rfl
theorem xse_X12_put : Cond.selects RX12 yX12_put yX12_put ∈ xg := xg11 180 rfl rfl
theorem xcd_X12_cut : Cond.code yX12_cut cX12_cut 2 (some .int) ∈ xg := xg11 213 rfl rfl
theorem xim_X12_cut : Cond.instanceMethod yX12_cut ∈ xg := xg11 211 rfl rfl
theorem xse_X12_cut : Cond.selects RX12 yX12_cut yX12_cut ∈ xg := xg11 212 rfl rfl
theorem xcd_X12_opOf : Cond.code yX12_opOf cX12_opOf 6 (some .int) ∈ xg := xg11 237 rfl rfl
theorem xim_X12_opOf : Cond.instanceMethod yX12_opOf ∈ xg := xg11 236 rfl rfl
theorem xse_X12_opOf : Cond.selects RX12 yX12_opOf yX12_opOf ∈ xg := xp10 13 (q := (⟨"TreeletterModel", "opOf", "(II)I"⟩, 86)) rfl rfl
theorem xcd_X12_isTold : Cond.code yX12_isTold cX12_isTold 5 (some .boolean) ∈ xg := xg12 15 rfl rfl
theorem xim_X12_isTold : Cond.instanceMethod yX12_isTold ∈ xg := xg12 14 rfl rfl
theorem xse_X12_isTold : Cond.selects RX12 yX12_isTold yX12_isTold ∈ xg := xp11 1 (q := (⟨"TreeletterModel", "isTold", "(III)Z"⟩, 86)) rfl rfl
theorem xcd_X12_pathNamed : Cond.code yX12_pathNamed cX12_pathNamed 5 none ∈ xg := xg12 21 rfl rfl
theorem xim_X12_pathNamed : Cond.instanceMethod yX12_pathNamed ∈ xg := xg12 20 rfl rfl
theorem xse_X12_pathNamed : Cond.selects RX12 yX12_pathNamed yX12_pathNamed ∈ xg := xp11 2 (q := (⟨"TreeletterModel", "pathNamed", "(IIJ)V"⟩, 86)) rfl rfl
theorem xcd_X12_does : Cond.code yX12_does cX12_does 7 (some .boolean) ∈ xg := xg11 233 rfl rfl
theorem xim_X12_does : Cond.instanceMethod yX12_does ∈ xg := xg11 232 rfl rfl
theorem xse_X12_does : Cond.selects RX12 yX12_does yX12_does ∈ xg := xp10 12 (q := (⟨"TreeletterModel", "does", "(II)Z"⟩, 86)) rfl rfl
theorem xcd_X12_lays : Cond.code yX12_lays cX12_lays 5 (some .int) ∈ xg := xg11 229 rfl rfl
theorem xim_X12_lays : Cond.instanceMethod yX12_lays ∈ xg := xg11 228 rfl rfl
theorem xse_X12_lays : Cond.selects RX12 yX12_lays yX12_lays ∈ xg := xp10 11 (q := (⟨"TreeletterModel", "lays", "(III)I"⟩, 86)) rfl rfl
theorem xcd_X12_lay : Cond.code yX12_lay cX12_lay 4 (some .int) ∈ xg := xg11 225 rfl rfl
theorem xim_X12_lay : Cond.instanceMethod yX12_lay ∈ xg := xg11 223 rfl rfl
theorem xse_X12_lay : Cond.selects RX12 yX12_lay yX12_lay ∈ xg := xg11 224 rfl rfl
theorem xcd_X12_named : Cond.code yX12_named cX12_named 5 none ∈ xg := xg12 49 rfl rfl
theorem xim_X12_named : Cond.instanceMethod yX12_named ∈ xg := xg12 48 rfl rfl
theorem xse_X12_named : Cond.selects RX12 yX12_named yX12_named ∈ xg := xp11 8 (q := (⟨"TreeletterModel", "named", "(IIJ)V"⟩, 86)) rfl rfl
theorem xcd_X12_ordered : Cond.code yX12_ordered cX12_ordered 9 none ∈ xg := xg12 45 rfl rfl
theorem xim_X12_ordered : Cond.instanceMethod yX12_ordered ∈ xg := xg12 44 rfl rfl
theorem xse_X12_ordered : Cond.selects RX12 yX12_ordered yX12_ordered ∈ xg := xp11 7 (q := (⟨"TreeletterModel", "ordered", "(IIII)V"⟩, 86)) rfl rfl
theorem xcd_X12_pathOfNode : Cond.code yX12_pathOfNode cX12_pathOfNode 4 none ∈ xg := xg12 41 rfl rfl
theorem xim_X12_pathOfNode : Cond.instanceMethod yX12_pathOfNode ∈ xg := xg12 40 rfl rfl
theorem xse_X12_pathOfNode : Cond.selects RX12 yX12_pathOfNode yX12_pathOfNode ∈ xg := xp11 6 (q := (⟨"TreeletterModel", "pathOfNode", "(II)V"⟩, 86)) rfl rfl
theorem xcd_X12_addsStep : Cond.code yX12_addsStep cX12_addsStep 4 none ∈ xg := xg12 69 rfl rfl
theorem xim_X12_addsStep : Cond.instanceMethod yX12_addsStep ∈ xg := xg12 68 rfl rfl
theorem xse_X12_addsStep : Cond.selects RX12 yX12_addsStep yX12_addsStep ∈ xg := xp11 13 (q := (⟨"TreeletterModel", "addsStep", "(II)V"⟩, 86)) rfl rfl
theorem xcd_X12_addsPlace : Cond.code yX12_addsPlace cX12_addsPlace 3 none ∈ xg := xg12 53 rfl rfl
theorem xim_X12_addsPlace : Cond.instanceMethod yX12_addsPlace ∈ xg := xg12 52 rfl rfl
theorem xse_X12_addsPlace : Cond.selects RX12 yX12_addsPlace yX12_addsPlace ∈ xg := xp11 9 (q := (⟨"TreeletterModel", "addsPlace", "(I)V"⟩, 86)) rfl rfl
theorem xcd_X12_patchRows : Cond.code yX12_patchRows cX12_patchRows 10 none ∈ xg := xg12 37 rfl rfl
theorem xim_X12_patchRows : Cond.instanceMethod yX12_patchRows ∈ xg := xg12 36 rfl rfl
theorem xse_X12_patchRows : Cond.selects RX12 yX12_patchRows yX12_patchRows ∈ xg := xp11 5 (q := (⟨"TreeletterModel", "patchRows", "(IIII)V"⟩, 86)) rfl rfl
theorem xcd_X12_patches : Cond.code yX12_patches cX12_patches 5 (some .boolean) ∈ xg := xg12 33 rfl rfl
theorem xim_X12_patches : Cond.instanceMethod yX12_patches ∈ xg := xg12 32 rfl rfl
theorem xse_X12_patches : Cond.selects RX12 yX12_patches yX12_patches ∈ xg := xp11 4 (q := (⟨"TreeletterModel", "patches", "(IIII)Z"⟩, 86)) rfl rfl
theorem xcd_X12_removesKeys : Cond.code yX12_removesKeys cX12_removesKeys 7 none ∈ xg := xg12 57 rfl rfl
theorem xim_X12_removesKeys : Cond.instanceMethod yX12_removesKeys ∈ xg := xg12 56 rfl rfl
theorem xse_X12_removesKeys : Cond.selects RX12 yX12_removesKeys yX12_removesKeys ∈ xg := xp11 10 (q := (⟨"TreeletterModel", "removesKeys", "(IIII)V"⟩, 86)) rfl rfl
theorem xcd_X12_addsKeys : Cond.code yX12_addsKeys cX12_addsKeys 7 none ∈ xg := xg12 65 rfl rfl
theorem xim_X12_addsKeys : Cond.instanceMethod yX12_addsKeys ∈ xg := xg12 64 rfl rfl
theorem xse_X12_addsKeys : Cond.selects RX12 yX12_addsKeys yX12_addsKeys ∈ xg := xp11 12 (q := (⟨"TreeletterModel", "addsKeys", "(IIII)V"⟩, 86)) rfl rfl
theorem xcd_X12_makesPatch : Cond.code yX12_makesPatch cX12_makesPatch 9 none ∈ xg := xg12 29 rfl rfl
theorem xim_X12_makesPatch : Cond.instanceMethod yX12_makesPatch ∈ xg := xg12 28 rfl rfl
theorem xse_X12_makesPatch : Cond.selects RX12 yX12_makesPatch yX12_makesPatch ∈ xg := xp11 3 (q := (⟨"TreeletterModel", "makesPatch", "(II)V"⟩, 86)) rfl rfl
theorem xcd_X12_patch : Cond.code yX12_patch cX12_patch 3 (some .int) ∈ xg := xg12 25 rfl rfl
theorem xim_X12_patch : Cond.instanceMethod yX12_patch ∈ xg := xg12 23 rfl rfl
theorem xse_X12_patch : Cond.selects RX12 yX12_patch yX12_patch ∈ xg := xg12 24 rfl rfl
theorem xcd_X12_undoesPut : Cond.code yX12_undoesPut cX12_undoesPut 5 none ∈ xg := xg12 81 rfl rfl
theorem xim_X12_undoesPut : Cond.instanceMethod yX12_undoesPut ∈ xg := xg12 80 rfl rfl
theorem xse_X12_undoesPut : Cond.selects RX12 yX12_undoesPut yX12_undoesPut ∈ xg := xp11 15 (q := (⟨"TreeletterModel", "undoesPut", "(I)V"⟩, 86)) rfl rfl
theorem xcd_X12_undoes : Cond.code yX12_undoes cX12_undoes 5 none ∈ xg := xg12 77 rfl rfl
theorem xim_X12_undoes : Cond.instanceMethod yX12_undoes ∈ xg := xg12 76 rfl rfl
theorem xse_X12_undoes : Cond.selects RX12 yX12_undoes yX12_undoes ∈ xg := xp11 14 (q := (⟨"TreeletterModel", "undoes", "(II)V"⟩, 86)) rfl rfl
theorem xcd_X12_turn : Cond.code yX12_turn cX12_turn 7 (some .int) ∈ xg := xg12 73 rfl rfl
theorem xim_X12_turn : Cond.instanceMethod yX12_turn ∈ xg := xg12 71 rfl rfl
theorem xse_X12_turn : Cond.selects RX12 yX12_turn yX12_turn ∈ xg := xg12 72 rfl rfl
theorem xcd_X12_areAlike : Cond.code yX12_areAlike cX12_areAlike 5 (some .boolean) ∈ xg := xg12 97 rfl rfl
theorem xim_X12_areAlike : Cond.instanceMethod yX12_areAlike ∈ xg := xg12 96 rfl rfl
theorem xse_X12_areAlike : Cond.selects RX12 yX12_areAlike yX12_areAlike ∈ xg := xp12 2 (q := (⟨"TreeletterModel", "areAlike", "(IIII)Z"⟩, 86)) rfl rfl
theorem xcd_X12_addsWord : Cond.code yX12_addsWord cX12_addsWord 3 none ∈ xg := xg12 113 rfl rfl
theorem xim_X12_addsWord : Cond.instanceMethod yX12_addsWord ∈ xg := xg12 112 rfl rfl
theorem xse_X12_addsWord : Cond.selects RX12 yX12_addsWord yX12_addsWord ∈ xg := xp12 6 (q := (⟨"TreeletterModel", "addsWord", "()V"⟩, 86)) rfl rfl
theorem xcd_X12_joinsOne : Cond.code yX12_joinsOne cX12_joinsOne 9 (some .int) ∈ xg := xg12 93 rfl rfl
theorem xim_X12_joinsOne : Cond.instanceMethod yX12_joinsOne ∈ xg := xg12 92 rfl rfl
theorem xse_X12_joinsOne : Cond.selects RX12 yX12_joinsOne yX12_joinsOne ∈ xg := xp12 1 (q := (⟨"TreeletterModel", "joinsOne", "(IIIZ)I"⟩, 86)) rfl rfl
theorem xcd_X12_goesInto : Cond.code yX12_goesInto cX12_goesInto 5 none ∈ xg := xg12 101 rfl rfl
theorem xim_X12_goesInto : Cond.instanceMethod yX12_goesInto ∈ xg := xg12 100 rfl rfl
theorem xse_X12_goesInto : Cond.selects RX12 yX12_goesInto yX12_goesInto ∈ xg := xp12 3 (q := (⟨"TreeletterModel", "goesInto", "(IIII)V"⟩, 86)) rfl rfl
theorem xcd_X12_docOf : Cond.code yX12_docOf cX12_docOf 2 (some .int) ∈ xg := xg12 109 rfl rfl
theorem xim_X12_docOf : Cond.instanceMethod yX12_docOf ∈ xg := xg12 108 rfl rfl
theorem xse_X12_docOf : Cond.selects RX12 yX12_docOf yX12_docOf ∈ xg := xp12 5 (q := (⟨"TreeletterModel", "docOf", "(I)I"⟩, 86)) rfl rfl
theorem xcd_X12_mapOf : Cond.code yX12_mapOf cX12_mapOf 3 (some .int) ∈ xg := xg12 105 rfl rfl
theorem xim_X12_mapOf : Cond.instanceMethod yX12_mapOf ∈ xg := xg12 104 rfl rfl
theorem xse_X12_mapOf : Cond.selects RX12 yX12_mapOf yX12_mapOf ∈ xg := xp12 4 (q := (⟨"TreeletterModel", "mapOf", "(II)I"⟩, 86)) rfl rfl
theorem xcd_X12_joins : Cond.code yX12_joins cX12_joins 11 none ∈ xg := xg12 89 rfl rfl
theorem xim_X12_joins : Cond.instanceMethod yX12_joins ∈ xg := xg12 88 rfl rfl
theorem xse_X12_joins : Cond.selects RX12 yX12_joins yX12_joins ∈ xg := xp12 0 (q := (⟨"TreeletterModel", "joins", "()V"⟩, 86)) rfl rfl
theorem xcd_X12_join : Cond.code yX12_join cX12_join 5 (some .int) ∈ xg := xg12 85 rfl rfl
theorem xim_X12_join : Cond.instanceMethod yX12_join ∈ xg := xg12 83 rfl rfl
theorem xse_X12_join : Cond.selects RX12 yX12_join yX12_join ∈ xg := xg12 84 rfl rfl
theorem xcd_X12_quarrels : Cond.code yX12_quarrels cX12_quarrels 1 (some .int) ∈ xg := xg12 117 rfl rfl
theorem xim_X12_quarrels : Cond.instanceMethod yX12_quarrels ∈ xg := xg12 115 rfl rfl
theorem xse_X12_quarrels : Cond.selects RX12 yX12_quarrels yX12_quarrels ∈ xg := xg12 116 rfl rfl
theorem xcd_X12_quarrel : Cond.code yX12_quarrel cX12_quarrel 3 (some .int) ∈ xg := xg12 121 rfl rfl
theorem xim_X12_quarrel : Cond.instanceMethod yX12_quarrel ∈ xg := xg12 119 rfl rfl
theorem xse_X12_quarrel : Cond.selects RX12 yX12_quarrel yX12_quarrel ∈ xg := xg12 120 rfl rfl
theorem xcd_X12_standard : Cond.code yX12_standard cX12_standard 1 (some .int) ∈ xg := xg12 125 rfl rfl
theorem xim_X12_standard : Cond.instanceMethod yX12_standard ∈ xg := xg12 123 rfl rfl
theorem xse_X12_standard : Cond.selects RX12 yX12_standard yX12_standard ∈ xg := xg12 124 rfl rfl
theorem xcd_X12_complains : Cond.code yX12_complains cX12_complains 3 none ∈ xg := xg12 150 rfl rfl
theorem xim_X12_complains : Cond.instanceMethod yX12_complains ∈ xg := xg12 149 rfl rfl
theorem xse_X12_complains : Cond.selects RX12 yX12_complains yX12_complains ∈ xg := xp12 11 (q := (⟨"TreeletterModel", "complains", "(II)V"⟩, 86)) rfl rfl
theorem xcd_X12_asksOf : Cond.code yX12_asksOf cX12_asksOf 3 none ∈ xg := xg12 138 rfl rfl
theorem xim_X12_asksOf : Cond.instanceMethod yX12_asksOf ∈ xg := xg12 137 rfl rfl
theorem xse_X12_asksOf : Cond.selects RX12 yX12_asksOf yX12_asksOf ∈ xg := xp12 8 (q := (⟨"TreeletterModel", "asksOf", "(II)V"⟩, 86)) rfl rfl
theorem xcd_X12_isKind : Cond.code yX12_isKind cX12_isKind 5 (some .boolean) ∈ xg := xg12 158 rfl rfl
theorem xim_X12_isKind : Cond.instanceMethod yX12_isKind ∈ xg := xg12 157 rfl rfl
theorem xse_X12_isKind : Cond.selects RX12 yX12_isKind yX12_isKind ∈ xg := xp12 13 (q := (⟨"TreeletterModel", "isKind", "(II)Z"⟩, 86)) rfl rfl
theorem xcd_X12_beside : Cond.code yX12_beside cX12_beside 5 (some .int) ∈ xg := xg12 162 rfl rfl
theorem xim_X12_beside : Cond.instanceMethod yX12_beside ∈ xg := xg12 161 rfl rfl
theorem xse_X12_beside : Cond.selects RX12 yX12_beside yX12_beside ∈ xg := xp12 14 (q := (⟨"TreeletterModel", "beside", "(II)I"⟩, 86)) rfl rfl
theorem xcd_X12_wordOfText : Cond.code yX12_wordOfText cX12_wordOfText 4 none ∈ xg := xg12 166 rfl rfl
theorem xim_X12_wordOfText : Cond.instanceMethod yX12_wordOfText ∈ xg := xg12 165 rfl rfl
theorem xse_X12_wordOfText : Cond.selects RX12 yX12_wordOfText yX12_wordOfText ∈ xg := xp12 15 (q := (⟨"TreeletterModel", "wordOfText", "(II)V"⟩, 86)) rfl rfl
theorem xcd_X12_says_ : Cond.code yX12_says_ cX12_says_ 8 none ∈ xg := xg12 154 rfl rfl
theorem xim_X12_says_ : Cond.instanceMethod yX12_says_ ∈ xg := xg12 153 rfl rfl
theorem xse_X12_says_ : Cond.selects RX12 yX12_says_ yX12_says_ ∈ xg := xp12 12 (q := (⟨"TreeletterModel", "says", "(III)V"⟩, 86)) rfl rfl
theorem xcd_X12_asksNext : Cond.code yX12_asksNext cX12_asksNext 11 (some .boolean) ∈ xg := xg12 175 rfl rfl
theorem xim_X12_asksNext : Cond.instanceMethod yX12_asksNext ∈ xg := xg12 174 rfl rfl
theorem xse_X12_asksNext : Cond.selects RX12 yX12_asksNext yX12_asksNext ∈ xg := xp13 1 (q := (⟨"TreeletterModel", "asksNext", "(IIII)Z"⟩, 86)) rfl rfl
theorem xcd_X12_asksRef : Cond.code yX12_asksRef cX12_asksRef 7 (some .boolean) ∈ xg := xg12 170 rfl rfl
theorem xim_X12_asksRef : Cond.instanceMethod yX12_asksRef ∈ xg := xg12 169 rfl rfl
theorem xse_X12_asksRef : Cond.selects RX12 yX12_asksRef yX12_asksRef ∈ xg := xp13 0 (q := (⟨"TreeletterModel", "asksRef", "(III)Z"⟩, 86)) rfl rfl
theorem xcd_X12_hears : Cond.code yX12_hears cX12_hears 3 none ∈ xg := xg12 146 rfl rfl
theorem xim_X12_hears : Cond.instanceMethod yX12_hears ∈ xg := xg12 145 rfl rfl
theorem xse_X12_hears : Cond.selects RX12 yX12_hears yX12_hears ∈ xg := xp12 10 (q := (⟨"TreeletterModel", "hears", "(I)V"⟩, 86)) rfl rfl
theorem xcd_X12_asksMore : Cond.code yX12_asksMore cX12_asksMore 4 (some .boolean) ∈ xg := xg12 142 rfl rfl
theorem xim_X12_asksMore : Cond.instanceMethod yX12_asksMore ∈ xg := xg12 141 rfl rfl
theorem xse_X12_asksMore : Cond.selects RX12 yX12_asksMore yX12_asksMore ∈ xg := xp12 9 (q := (⟨"TreeletterModel", "asksMore", "(I)Z"⟩, 86)) rfl rfl
theorem xcd_X12_asksWhole : Cond.code yX12_asksWhole cX12_asksWhole 4 none ∈ xg := xg12 134 rfl rfl
theorem xim_X12_asksWhole : Cond.instanceMethod yX12_asksWhole ∈ xg := xg12 133 rfl rfl
theorem xse_X12_asksWhole : Cond.selects RX12 yX12_asksWhole yX12_asksWhole ∈ xg := xp12 7 (q := (⟨"TreeletterModel", "asksWhole", "(III)V"⟩, 86)) rfl rfl
theorem xcd_X12_check : Cond.code yX12_check cX12_check 4 (some .int) ∈ xg := xg12 129 rfl rfl
theorem xim_X12_check : Cond.instanceMethod yX12_check ∈ xg := xg12 127 rfl rfl
theorem xse_X12_check : Cond.selects RX12 yX12_check yX12_check ∈ xg := xg12 128 rfl rfl
theorem xcd_X12_complaint : Cond.code yX12_complaint cX12_complaint 3 (some .int) ∈ xg := xg12 179 rfl rfl
theorem xim_X12_complaint : Cond.instanceMethod yX12_complaint ∈ xg := xg12 177 rfl rfl
theorem xse_X12_complaint : Cond.selects RX12 yX12_complaint yX12_complaint ∈ xg := xg12 178 rfl rfl
theorem xcd_X12_areAll : Cond.code yX12_areAll cX12_areAll 5 (some .boolean) ∈ xg := xg12 187 rfl rfl
theorem xim_X12_areAll : Cond.instanceMethod yX12_areAll ∈ xg := xg12 186 rfl rfl
theorem xse_X12_areAll : Cond.selects RX12 yX12_areAll yX12_areAll ∈ xg := xp13 2 (q := (⟨"TreeletterModel", "areAll", "(II)Z"⟩, 86)) rfl rfl
theorem xcd_X12_isNewKey : Cond.code yX12_isNewKey cX12_isNewKey 5 (some .boolean) ∈ xg := xg12 191 rfl rfl
theorem xim_X12_isNewKey : Cond.instanceMethod yX12_isNewKey ∈ xg := xg12 190 rfl rfl
theorem xse_X12_isNewKey : Cond.selects RX12 yX12_isNewKey yX12_isNewKey ∈ xg := xp13 3 (q := (⟨"TreeletterModel", "isNewKey", "(III)Z"⟩, 86)) rfl rfl
theorem xcd_X12_columns : Cond.code yX12_columns cX12_columns 12 (some .int) ∈ xg := xg12 183 rfl rfl
theorem xim_X12_columns : Cond.instanceMethod yX12_columns ∈ xg := xg12 181 rfl rfl
theorem xse_X12_columns : Cond.selects RX12 yX12_columns yX12_columns ∈ xg := xg12 182 rfl rfl
theorem xcd_X12_rows : Cond.code yX12_rows cX12_rows 10 (some .int) ∈ xg := xg12 195 rfl rfl
theorem xim_X12_rows : Cond.instanceMethod yX12_rows ∈ xg := xg12 193 rfl rfl
theorem xse_X12_rows : Cond.selects RX12 yX12_rows yX12_rows ∈ xg := xg12 194 rfl rfl
theorem xcd_X12_draw : Cond.code yX12_draw cX12_draw 2 (some .int) ∈ xg := xg12 212 rfl rfl
theorem xim_X12_draw : Cond.instanceMethod yX12_draw ∈ xg := xg12 211 rfl rfl
theorem xse_X12_draw : Cond.selects RX12 yX12_draw yX12_draw ∈ xg := xp13 6 (q := (⟨"TreeletterModel", "draw", "(I)I"⟩, 86)) rfl rfl
theorem xcd_X12_drawsOne : Cond.code yX12_drawsOne cX12_drawsOne 10 (some .int) ∈ xg := xg12 208 rfl rfl
theorem xim_X12_drawsOne : Cond.instanceMethod yX12_drawsOne ∈ xg := xg12 207 rfl rfl
theorem xse_X12_drawsOne : Cond.selects RX12 yX12_drawsOne yX12_drawsOne ∈ xg := xp13 5 (q := (⟨"TreeletterModel", "drawsOne", "(IIZ)I"⟩, 86)) rfl rfl
theorem xcd_X12_grows : Cond.code yX12_grows cX12_grows 5 none ∈ xg := xg12 204 rfl rfl
theorem xim_X12_grows : Cond.instanceMethod yX12_grows ∈ xg := xg12 203 rfl rfl
theorem xse_X12_grows : Cond.selects RX12 yX12_grows yX12_grows ∈ xg := xp13 4 (q := (⟨"TreeletterModel", "grows", "(II)V"⟩, 86)) rfl rfl
theorem xcd_X12_grow : Cond.code yX12_grow cX12_grow 3 (some .int) ∈ xg := xg12 199 rfl rfl
theorem xim_X12_grow : Cond.instanceMethod yX12_grow ∈ xg := xg12 197 rfl rfl
theorem xse_X12_grow : Cond.selects RX12 yX12_grow yX12_grow ∈ xg := xg12 198 rfl rfl
theorem xcd_X12_vary : Cond.code yX12_vary cX12_vary 4 (some .int) ∈ xg := xg12 217 rfl rfl
theorem xim_X12_vary : Cond.instanceMethod yX12_vary ∈ xg := xg12 215 rfl rfl
theorem xse_X12_vary : Cond.selects RX12 yX12_vary yX12_vary ∈ xg := xg12 216 rfl rfl
theorem xcd_X12_sum : Cond.code yX12_sum cX12_sum 4 (some .int) ∈ xg := xg12 221 rfl rfl
theorem xim_X12_sum : Cond.instanceMethod yX12_sum ∈ xg := xg12 219 rfl rfl
theorem xse_X12_sum : Cond.selects RX12 yX12_sum yX12_sum ∈ xg := xg12 220 rfl rfl
theorem xcd_X12_isSound : Cond.code yX12_isSound cX12_isSound 2 (some .boolean) ∈ xg := xg12 225 rfl rfl
theorem xim_X12_isSound : Cond.instanceMethod yX12_isSound ∈ xg := xg12 223 rfl rfl
theorem xse_X12_isSound : Cond.selects RX12 yX12_isSound yX12_isSound ∈ xg := xg12 224 rfl rfl
theorem xcd_J9_abs_0f7a4 : Cond.code yJ9_abs_0f7a4 cJ9_abs_0f7a4 1 (some .int) ∈ xg := xg3 180 rfl rfl
theorem xst_J9_abs_0f7a4 : Cond.static yJ9_abs_0f7a4 ∈ xg := xg3 179 rfl rfl
theorem xcd_J9_max_7cf53 : Cond.code yJ9_max_7cf53 cJ9_max_7cf53 2 (some .int) ∈ xg := xg1 42 rfl rfl
theorem xst_J9_max_7cf53 : Cond.static yJ9_max_7cf53 ∈ xg := xg1 41 rfl rfl
theorem xcd_J9_min_7cf53 : Cond.code yJ9_min_7cf53 cJ9_min_7cf53 2 (some .int) ∈ xg := xg5 23 rfl rfl
theorem xst_J9_min_7cf53 : Cond.static yJ9_min_7cf53 ∈ xg := xg5 22 rfl rfl
theorem xcd_J0_length_8abf5 : Cond.code yJ0_length_8abf5 cJ0_length_8abf5 1 (some .int) ∈ xg := xg2 168 rfl rfl
theorem xim_J0_length_8abf5 : Cond.instanceMethod yJ0_length_8abf5 ∈ xg := xg2 166 rfl rfl
theorem xse_J0_length_8abf5 : Cond.selects RJ0 yJ0_length_8abf5 yJ0_length_8abf5 ∈ xg := xg2 167 rfl rfl
theorem xcd_J0_charAt_5068e : Cond.code yJ0_charAt_5068e cJ0_charAt_5068e 2 (some .char) ∈ xg := xg2 178 rfl rfl
theorem xim_J0_charAt_5068e : Cond.instanceMethod yJ0_charAt_5068e ∈ xg := xg2 176 rfl rfl
theorem xse_J0_charAt_5068e : Cond.selects RJ0 yJ0_charAt_5068e yJ0_charAt_5068e ∈ xg := xg2 177 rfl rfl
theorem xcd_J0_coder_7d493 : Cond.code yJ0_coder_7d493 cJ0_coder_7d493 1 (some .byte) ∈ xg := xg2 172 rfl rfl
theorem xim_J0_coder_7d493 : Cond.instanceMethod yJ0_coder_7d493 ∈ xg := xg2 170 rfl rfl
theorem xse_J0_coder_7d493 : Cond.selects RJ0 yJ0_coder_7d493 yJ0_coder_7d493 ∈ xg := xg2 171 rfl rfl
theorem xcd_J0_isLatin1_aae02 : Cond.code yJ0_isLatin1_aae02 cJ0_isLatin1_aae02 1 (some .boolean) ∈ xg := xg2 182 rfl rfl
theorem xim_J0_isLatin1_aae02 : Cond.instanceMethod yJ0_isLatin1_aae02 ∈ xg := xg2 180 rfl rfl
theorem xse_J0_isLatin1_aae02 : Cond.selects RJ0 yJ0_isLatin1_aae02 yJ0_isLatin1_aae02 ∈ xg := xg2 181 rfl rfl
theorem xcd_J0_checkIndex_df160 : Cond.code yJ0_checkIndex_df160 cJ0_checkIndex_df160 2 none ∈ xg := xg2 188 rfl rfl
theorem xst_J0_checkIndex_df160 : Cond.static yJ0_checkIndex_df160 ∈ xg := xg2 187 rfl rfl
theorem xcd_J1_charAt_3b067 : Cond.code yJ1_charAt_3b067 cJ1_charAt_3b067 2 (some .char) ∈ xg := xg2 185 rfl rfl
theorem xst_J1_charAt_3b067 : Cond.static yJ1_charAt_3b067 ∈ xg := xg2 184 rfl rfl
theorem xcd_J2_getChar_3b067 : Cond.code yJ2_getChar_3b067 cJ2_getChar_3b067 2 (some .char) ∈ xg := xg2 206 rfl rfl
theorem xst_J2_getChar_3b067 : Cond.static yJ2_getChar_3b067 ∈ xg := xg2 205 rfl rfl
theorem xcd_J2_length_9d52b : Cond.code yJ2_length_9d52b cJ2_length_9d52b 1 (some .int) ∈ xg := xg2 202 rfl rfl
theorem xst_J2_length_9d52b : Cond.static yJ2_length_9d52b ∈ xg := xg2 201 rfl rfl
theorem xcd_J2_charAt_3b067 : Cond.code yJ2_charAt_3b067 cJ2_charAt_3b067 2 (some .char) ∈ xg := xg2 196 rfl rfl
theorem xst_J2_charAt_3b067 : Cond.static yJ2_charAt_3b067 ∈ xg := xg2 195 rfl rfl
theorem xcd_J2_checkIndex_2214a : Cond.code yJ2_checkIndex_2214a cJ2_checkIndex_2214a 2 none ∈ xg := xg2 199 rfl rfl
theorem xst_J2_checkIndex_2214a : Cond.static yJ2_checkIndex_2214a ∈ xg := xg2 198 rfl rfl
theorem xcd_J3_checkIndex_8e157 : Cond.code yJ3_checkIndex_8e157 cJ3_checkIndex_8e157 3 (some .int) ∈ xg := xg2 193 rfl rfl
theorem xst_J3_checkIndex_8e157 : Cond.static yJ3_checkIndex_8e157 ∈ xg := xg2 192 rfl rfl
theorem xst_L_write : Cond.static yL_write ∈ xg := xg4 29 rfl rfl
theorem xst_L_paper : Cond.static yL_paper ∈ xg := xg4 123 rfl rfl
theorem xst_L_rule : Cond.static yL_rule ∈ xg := xg4 148 rfl rfl
theorem xst_L_read : Cond.static yL_read ∈ xg := xg4 155 rfl rfl
theorem xst_L_print : Cond.static yL_print ∈ xg := xg4 182 rfl rfl
theorem xst_L_node : Cond.static yL_node ∈ xg := xg5 38 rfl rfl
theorem xst_L_tell : Cond.static yL_tell ∈ xg := xg5 81 rfl rfl
theorem xst_L_equal : Cond.static yL_equal ∈ xg := xg5 107 rfl rfl
theorem xst_L_compare : Cond.static yL_compare ∈ xg := xg5 131 rfl rfl
theorem xst_L_digest : Cond.static yL_digest ∈ xg := xg5 149 rfl rfl
theorem xst_L_take : Cond.static yL_take ∈ xg := xg5 162 rfl rfl
theorem xst_L_sorted : Cond.static yL_sorted ∈ xg := xg5 169 rfl rfl
theorem xst_L_both : Cond.static yL_both ∈ xg := xg5 184 rfl rfl
theorem xst_L_undo : Cond.static yL_undo ∈ xg := xg5 194 rfl rfl
theorem xst_L_select : Cond.static yL_select ∈ xg := xg5 201 rfl rfl
theorem xst_L_find : Cond.static yL_find ∈ xg := xg6 61 rfl rfl
theorem xst_L_put : Cond.static yL_put ∈ xg := xg6 72 rfl rfl
theorem xst_L_cut : Cond.static yL_cut ∈ xg := xg6 169 rfl rfl
theorem xst_L_lay : Cond.static yL_lay ∈ xg := xg6 185 rfl rfl
theorem xst_L_patch : Cond.static yL_patch ∈ xg := xg7 1 rfl rfl
theorem xst_L_turn : Cond.static yL_turn ∈ xg := xg7 67 rfl rfl
theorem xst_L_join : Cond.static yL_join ∈ xg := xg7 78 rfl rfl
theorem xst_L_quarrel : Cond.static yL_quarrel ∈ xg := xg7 135 rfl rfl
theorem xst_L_standard : Cond.static yL_standard ∈ xg := xg7 150 rfl rfl
theorem xst_L_check : Cond.static yL_check ∈ xg := xg7 157 rfl rfl
theorem xst_L_complaint : Cond.static yL_complaint ∈ xg := xg8 52 rfl rfl
theorem xst_L_columns : Cond.static yL_columns ∈ xg := xg8 67 rfl rfl
theorem xst_L_rows : Cond.static yL_rows ∈ xg := xg8 89 rfl rfl
theorem xst_L_grow : Cond.static yL_grow ∈ xg := xg8 105 rfl rfl
theorem xst_L_vary : Cond.static yL_vary ∈ xg := xg8 160 rfl rfl
theorem xst_L_sum : Cond.static yL_sum ∈ xg := xg8 173 rfl rfl
theorem xst_L_isSound : Cond.static yL_isSound ∈ xg := xg8 184 rfl rfl
theorem xs_L_119 : XSiteI RL 119 yX11_init cX11_init 2 0 := ⟨Or.inl (xg1 28 rfl rfl), xim_X11_init, xit_X11, xcd_X11_init, rfl, ⟨by decide +kernel, by decide +kernel, by decide +kernel⟩⟩
theorem xs_X11_1 : Cond.methodLink RX11 1 objectInit ∈ xg := xg1 31 rfl rfl
theorem xs_X11_11 : XSiteI RX11 11 yX9_init cX9_init 2 1 := ⟨Or.inl (xg1 36 rfl rfl), xim_X9_init, xit_X9, xcd_X9_init, rfl, ⟨by decide +kernel, by decide +kernel, by decide +kernel⟩⟩
theorem xs_X9_3 : Cond.methodLink RX9 3 objectInit ∈ xg := xg1 39 rfl rfl
theorem xs_X9_9 : Cond.methodLink RX9 9 Lib.Math.max.name ∈ xg ∧ Cond.static Lib.Math.max.name ∈ xg ∧ Cond.initialized "java/lang/Math" ∈ xg ∧ Cond.code Lib.Math.max.name Lib.Math.max.code 2 (some .int) ∈ xg := ⟨xg1 40 rfl rfl, xg1 41 rfl rfl, xg1 3 rfl rfl, xg1 42 rfl rfl⟩
theorem xs_X11_31 : XSiteI RX11 31 yX10_init cX10_init 1 0 := ⟨Or.inr ⟨"Treeletter", xt1 55 rfl⟩, xim_X10_init, xit_X10, xcd_X10_init, rfl, ⟨by decide +kernel, by decide +kernel, by decide +kernel⟩⟩
theorem xs_X10_3 : Cond.methodLink RX10 3 objectInit ∈ xg := xg1 58 rfl rfl
theorem xs_X11_41 : XSiteI RX11 41 yX6_init cX6_init 1 0 := ⟨Or.inr ⟨"Treeletter", xt1 90 rfl⟩, xim_X6_init, xit_X6, xcd_X6_init, rfl, ⟨by decide +kernel, by decide +kernel, by decide +kernel⟩⟩
theorem xs_X6_3 : Cond.methodLink RX6 3 objectInit ∈ xg := xg1 93 rfl rfl
theorem xs_X6_11 : XSiteI RX6 11 yX10_init cX10_init 1 0 := ⟨Or.inr ⟨"Treeletter", xt1 95 rfl⟩, xim_X10_init, xit_X10, xcd_X10_init, rfl, ⟨by decide +kernel, by decide +kernel, by decide +kernel⟩⟩
theorem xs_X6_23 : XSiteI RX6 23 yX9_init cX9_init 2 1 := ⟨Or.inl (xg1 97 rfl rfl), xim_X9_init, xit_X9, xcd_X9_init, rfl, ⟨by decide +kernel, by decide +kernel, by decide +kernel⟩⟩
theorem xs_X11_48 : XSiteI RX11 48 yX7_init cX7_init 1 0 := ⟨Or.inr ⟨"Treeletter", xt1 131 rfl⟩, xim_X7_init, xit_X7, xcd_X7_init, rfl, ⟨by decide +kernel, by decide +kernel, by decide +kernel⟩⟩
theorem xs_X7_3 : Cond.methodLink RX7 3 objectInit ∈ xg := xg1 134 rfl rfl
theorem xs_X7_11 : XSiteI RX7 11 yX9_init cX9_init 2 1 := ⟨Or.inl (xg1 136 rfl rfl), xim_X9_init, xit_X9, xcd_X9_init, rfl, ⟨by decide +kernel, by decide +kernel, by decide +kernel⟩⟩
theorem xs_X11_55 : XSiteI RX11 55 yX2_init cX2_init 1 0 := ⟨Or.inr ⟨"Treeletter", xt1 152 rfl⟩, xim_X2_init, xit_X2, xcd_X2_init, rfl, ⟨by decide +kernel, by decide +kernel, by decide +kernel⟩⟩
theorem xs_X2_3 : Cond.methodLink RX2 3 objectInit ∈ xg := xg1 155 rfl rfl
theorem xs_X2_11 : XSiteI RX2 11 yX9_init cX9_init 2 1 := ⟨Or.inl (xg1 157 rfl rfl), xim_X9_init, xit_X9, xcd_X9_init, rfl, ⟨by decide +kernel, by decide +kernel, by decide +kernel⟩⟩
theorem xs_X11_62 : XSiteI RX11 62 yX5_init cX5_init 1 0 := ⟨Or.inr ⟨"Treeletter", xt1 184 rfl⟩, xim_X5_init, xit_X5, xcd_X5_init, rfl, ⟨by decide +kernel, by decide +kernel, by decide +kernel⟩⟩
theorem xs_X5_3 : Cond.methodLink RX5 3 objectInit ∈ xg := xg1 187 rfl rfl
theorem xs_X5_11 : XSiteI RX5 11 yX9_init cX9_init 2 1 := ⟨Or.inl (xg1 189 rfl rfl), xim_X9_init, xit_X9, xcd_X9_init, rfl, ⟨by decide +kernel, by decide +kernel, by decide +kernel⟩⟩
theorem xs_X5_36 : XSiteI RX5 36 yX10_init cX10_init 1 0 := ⟨Or.inr ⟨"Treeletter", xt1 191 rfl⟩, xim_X10_init, xit_X10, xcd_X10_init, rfl, ⟨by decide +kernel, by decide +kernel, by decide +kernel⟩⟩
theorem xs_X11_69 : XSiteI RX11 69 yX1_init cX1_init 1 0 := ⟨Or.inr ⟨"Treeletter", xt1 219 rfl⟩, xim_X1_init, xit_X1, xcd_X1_init, rfl, ⟨by decide +kernel, by decide +kernel, by decide +kernel⟩⟩
theorem xs_X1_3 : Cond.methodLink RX1 3 objectInit ∈ xg := xg1 222 rfl rfl
theorem xs_X1_11 : XSiteI RX1 11 yX10_init cX10_init 1 0 := ⟨Or.inr ⟨"Treeletter", xt1 224 rfl⟩, xim_X10_init, xit_X10, xcd_X10_init, rfl, ⟨by decide +kernel, by decide +kernel, by decide +kernel⟩⟩
theorem xs_X1_29 : XSiteI RX1 29 yX7_init cX7_init 1 0 := ⟨Or.inr ⟨"Treeletter", xt1 226 rfl⟩, xim_X7_init, xit_X7, xcd_X7_init, rfl, ⟨by decide +kernel, by decide +kernel, by decide +kernel⟩⟩
theorem xs_X1_36 : XSiteI RX1 36 yX9_init cX9_init 2 1 := ⟨Or.inl (xg1 228 rfl rfl), xim_X9_init, xit_X9, xcd_X9_init, rfl, ⟨by decide +kernel, by decide +kernel, by decide +kernel⟩⟩
theorem xs_X11_76 : XSiteI RX11 76 yX4_init cX4_init 1 0 := ⟨Or.inr ⟨"Treeletter", xt2 28 rfl⟩, xim_X4_init, xit_X4, xcd_X4_init, rfl, ⟨by decide +kernel, by decide +kernel, by decide +kernel⟩⟩
theorem xs_X4_3 : Cond.methodLink RX4 3 objectInit ∈ xg := xg2 31 rfl rfl
theorem xs_X4_11 : XSiteI RX4 11 yX10_init cX10_init 1 0 := ⟨Or.inr ⟨"Treeletter", xt2 33 rfl⟩, xim_X10_init, xit_X10, xcd_X10_init, rfl, ⟨by decide +kernel, by decide +kernel, by decide +kernel⟩⟩
theorem xs_X4_20 : XSiteI RX4 20 yX9_init cX9_init 2 1 := ⟨Or.inl (xg2 35 rfl rfl), xim_X9_init, xit_X9, xcd_X9_init, rfl, ⟨by decide +kernel, by decide +kernel, by decide +kernel⟩⟩
theorem xs_X11_83 : XSiteI RX11 83 yX0_init cX0_init 1 0 := ⟨Or.inr ⟨"Treeletter", xt2 67 rfl⟩, xim_X0_init, xit_X0, xcd_X0_init, rfl, ⟨by decide +kernel, by decide +kernel, by decide +kernel⟩⟩
theorem xs_X0_3 : Cond.methodLink RX0 3 objectInit ∈ xg := xg2 70 rfl rfl
theorem xs_X0_11 : XSiteI RX0 11 yX10_init cX10_init 1 0 := ⟨Or.inr ⟨"Treeletter", xt2 72 rfl⟩, xim_X10_init, xit_X10, xcd_X10_init, rfl, ⟨by decide +kernel, by decide +kernel, by decide +kernel⟩⟩
theorem xs_X0_20 : XSiteI RX0 20 yX9_init cX9_init 2 1 := ⟨Or.inl (xg2 74 rfl rfl), xim_X9_init, xit_X9, xcd_X9_init, rfl, ⟨by decide +kernel, by decide +kernel, by decide +kernel⟩⟩
theorem xs_X11_90 : XSiteI RX11 90 yX3_init cX3_init 1 0 := ⟨Or.inr ⟨"Treeletter", xt2 129 rfl⟩, xim_X3_init, xit_X3, xcd_X3_init, rfl, ⟨by decide +kernel, by decide +kernel, by decide +kernel⟩⟩
theorem xs_X3_3 : Cond.methodLink RX3 3 objectInit ∈ xg := xg2 132 rfl rfl
theorem xs_X3_11 : XSiteI RX3 11 yX10_init cX10_init 1 0 := ⟨Or.inr ⟨"Treeletter", xt2 134 rfl⟩, xim_X10_init, xit_X10, xcd_X10_init, rfl, ⟨by decide +kernel, by decide +kernel, by decide +kernel⟩⟩
theorem xs_X3_23 : XSiteI RX3 23 yX9_init cX9_init 2 1 := ⟨Or.inl (xg2 136 rfl rfl), xim_X9_init, xit_X9, xcd_X9_init, rfl, ⟨by decide +kernel, by decide +kernel, by decide +kernel⟩⟩
theorem xs_X11_95 : XSiteS RX11 95 yX8_standardTo cX8_standardTo 1 none 1 := ⟨xg2 153 rfl rfl, xst_X8_standardTo, xit_X8, xcd_X8_standardTo, ⟨by decide +kernel, by decide +kernel, by decide +kernel⟩⟩
theorem xs_X8_102 : XSiteV RX8 102 RX9 yX9_clear cX9_clear 1 none 0 := ⟨xg2 156 rfl rfl, xim_X9_clear, xse_X9_clear, xit_X9, xcd_X9_clear, ⟨rfl, by decide +kernel, by decide +kernel, by decide +kernel⟩⟩
theorem xs_X8_17 : XSiteV RX8 17 RX9 yX9_addAll cX9_addAll 3 none 1 := ⟨xg2 161 rfl rfl, xim_X9_addAll, xse_X9_addAll, xit_X9, xcd_X9_addAll, ⟨rfl, by decide +kernel, by decide +kernel, by decide +kernel⟩⟩
theorem xs_X9_25 : XSiteV RX9 25 RJ0 yJ0_length_8abf5 cJ0_length_8abf5 1 (some .int) 0 := ⟨xg2 165 rfl rfl, xim_J0_length_8abf5, xse_J0_length_8abf5, xit_J0, xcd_J0_length_8abf5, ⟨rfl, by decide +kernel, by decide +kernel, by decide +kernel⟩⟩
theorem xs_J0_335 : XSiteV RJ0 335 RJ0 yJ0_coder_7d493 cJ0_coder_7d493 1 (some .byte) 0 := ⟨xg2 169 rfl rfl, xim_J0_coder_7d493, xse_J0_coder_7d493, xit_J0, xcd_J0_coder_7d493, ⟨rfl, by decide +kernel, by decide +kernel, by decide +kernel⟩⟩
theorem xs_X9_30 : XSiteV RX9 30 RJ0 yJ0_charAt_5068e cJ0_charAt_5068e 2 (some .char) 1 := ⟨xg2 175 rfl rfl, xim_J0_charAt_5068e, xse_J0_charAt_5068e, xit_J0, xcd_J0_charAt_5068e, ⟨rfl, by decide +kernel, by decide +kernel, by decide +kernel⟩⟩
theorem xs_J0_492 : XSiteV RJ0 492 RJ0 yJ0_isLatin1_aae02 cJ0_isLatin1_aae02 1 (some .boolean) 0 := ⟨xg2 179 rfl rfl, xim_J0_isLatin1_aae02, xse_J0_isLatin1_aae02, xit_J0, xcd_J0_isLatin1_aae02, ⟨rfl, by decide +kernel, by decide +kernel, by decide +kernel⟩⟩
theorem xs_J0_495 : XSiteS RJ0 495 yJ1_charAt_3b067 cJ1_charAt_3b067 2 (some .char) 2 := ⟨xg2 183 rfl rfl, xst_J1_charAt_3b067, xit_J1, xcd_J1_charAt_3b067, ⟨by decide +kernel, by decide +kernel, by decide +kernel⟩⟩
theorem xs_J1_9 : XSiteS RJ1 9 yJ0_checkIndex_df160 cJ0_checkIndex_df160 2 none 2 := ⟨xg2 186 rfl rfl, xst_J0_checkIndex_df160, xit_J0, xcd_J0_checkIndex_df160, ⟨by decide +kernel, by decide +kernel, by decide +kernel⟩⟩
theorem xs_J0_1059 : XSiteS RJ0 1059 yJ3_checkIndex_8e157 cJ3_checkIndex_8e157 3 (some .int) 3 := ⟨xg2 191 rfl rfl, xst_J3_checkIndex_8e157, xit_J3, xcd_J3_checkIndex_8e157, ⟨by decide +kernel, by decide +kernel, by decide +kernel⟩⟩
theorem xs_J2_414 : XSiteS RJ2 414 yJ0_checkIndex_df160 cJ0_checkIndex_df160 2 none 2 := ⟨xg2 203 rfl rfl, xst_J0_checkIndex_df160, xit_J0, xcd_J0_checkIndex_df160, ⟨by decide +kernel, by decide +kernel, by decide +kernel⟩⟩
theorem xs_X9_34 : XSiteV RX9 34 RX9 yX9_add cX9_add 2 none 1 := ⟨xg2 213 rfl rfl, xim_X9_add, xse_X9_add, xit_X9, xcd_X9_add, ⟨rfl, by decide +kernel, by decide +kernel, by decide +kernel⟩⟩
theorem xs_X11_101 : XSiteV RX11 101 RX6 yX6_parse cX6_parse 3 (some .int) 2 := ⟨xg2 228 rfl rfl, xim_X6_parse, xse_X6_parse, xit_X6, xcd_X6_parse, ⟨rfl, by decide +kernel, by decide +kernel, by decide +kernel⟩⟩
theorem xs_X6_52 : XSiteV RX6 52 RX10 yX10_clear cX10_clear 1 none 0 := ⟨xg2 232 rfl rfl, xim_X10_clear, xse_X10_clear, xit_X10, xcd_X10_clear, ⟨rfl, by decide +kernel, by decide +kernel, by decide +kernel⟩⟩
theorem xs_X6_55 : XSiteV RX6 55 RX9 yX9_clear cX9_clear 1 none 0 := ⟨xg2 236 rfl rfl, xim_X9_clear, xse_X9_clear, xit_X9, xcd_X9_clear, ⟨rfl, by decide +kernel, by decide +kernel, by decide +kernel⟩⟩
theorem xs_X6_56 : XSiteV RX6 56 RX6 yX6_value cX6_value 3 (some .int) 1 := ⟨xg2 237 rfl rfl, xim_X6_value, xse_X6_value, xit_X6, xcd_X6_value, ⟨rfl, by decide +kernel, by decide +kernel, by decide +kernel⟩⟩
theorem xs_X6_60 : XSiteV RX6 60 RX6 yX6_skipBlanks cX6_skipBlanks 1 none 0 := ⟨xg3 1 rfl rfl, xim_X6_skipBlanks, xse_X6_skipBlanks, xit_X6, xcd_X6_skipBlanks, ⟨rfl, by decide +kernel, by decide +kernel, by decide +kernel⟩⟩
theorem xs_X6_73 : XSiteV RX6 73 RX9 yX9_length cX9_length 1 (some .int) 0 := ⟨xg3 5 rfl rfl, xim_X9_length, xse_X9_length, xit_X9, xcd_X9_length, ⟨rfl, by decide +kernel, by decide +kernel, by decide +kernel⟩⟩
theorem xs_X6_63 : XSiteV RX6 63 RX6 yX6_here cX6_here 1 (some .int) 0 := ⟨xg3 9 rfl rfl, xim_X6_here, xse_X6_here, xit_X6, xcd_X6_here, ⟨rfl, by decide +kernel, by decide +kernel, by decide +kernel⟩⟩
theorem xs_X6_70 : XSiteV RX6 70 RX9 yX9_at cX9_at 2 (some .int) 1 := ⟨xg3 13 rfl rfl, xim_X9_at, xse_X9_at, xit_X9, xcd_X9_at, ⟨rfl, by decide +kernel, by decide +kernel, by decide +kernel⟩⟩
theorem xs_X6_67 : XSiteV RX6 67 RX6 yX6_fail cX6_fail 2 (some .int) 1 := ⟨xg3 17 rfl rfl, xim_X6_fail, xse_X6_fail, xit_X6, xcd_X6_fail, ⟨rfl, by decide +kernel, by decide +kernel, by decide +kernel⟩⟩
theorem xs_X6_83 : XSiteV RX6 83 RX6 yX6_group cX6_group 7 (some .int) 2 := ⟨xg3 21 rfl rfl, xim_X6_group, xse_X6_group, xit_X6, xcd_X6_group, ⟨rfl, by decide +kernel, by decide +kernel, by decide +kernel⟩⟩
theorem xs_X6_106 : XSiteV RX6 106 RX6 yX6_begin cX6_begin 3 (some .int) 1 := ⟨xg3 25 rfl rfl, xim_X6_begin, xse_X6_begin, xit_X6, xcd_X6_begin, ⟨rfl, by decide +kernel, by decide +kernel, by decide +kernel⟩⟩
theorem xs_X6_76 : XSiteV RX6 76 RX10 yX10_add cX10_add 2 (some .int) 1 := ⟨xg3 29 rfl rfl, xim_X10_add, xse_X10_add, xit_X10, xcd_X10_add, ⟨rfl, by decide +kernel, by decide +kernel, by decide +kernel⟩⟩
theorem xs_X6_79 : XSiteV RX6 79 RX10 yX10_setKey cX10_setKey 4 none 2 := ⟨xg3 33 rfl rfl, xim_X10_setKey, xse_X10_setKey, xit_X10, xcd_X10_setKey, ⟨rfl, by decide +kernel, by decide +kernel, by decide +kernel⟩⟩
theorem xs_X10_156 : XSiteV RX10 156 RX10 yX10_clearKey cX10_clearKey 2 none 1 := ⟨xg3 37 rfl rfl, xim_X10_clearKey, xse_X10_clearKey, xit_X10, xcd_X10_clearKey, ⟨rfl, by decide +kernel, by decide +kernel, by decide +kernel⟩⟩
theorem xs_X10_124 : XSiteV RX10 124 RX9 yX9_length cX9_length 1 (some .int) 0 := ⟨xg3 41 rfl rfl, xim_X9_length, xse_X9_length, xit_X9, xcd_X9_length, ⟨rfl, by decide +kernel, by decide +kernel, by decide +kernel⟩⟩
theorem xs_X10_129 : XSiteV RX10 129 RX9 yX9_at cX9_at 2 (some .int) 1 := ⟨xg3 42 rfl rfl, xim_X9_at, xse_X9_at, xit_X9, xcd_X9_at, ⟨rfl, by decide +kernel, by decide +kernel, by decide +kernel⟩⟩
theorem xs_X10_159 : XSiteV RX10 159 RX10 yX10_addKeySign cX10_addKeySign 4 none 2 := ⟨xg3 43 rfl rfl, xim_X10_addKeySign, xse_X10_addKeySign, xit_X10, xcd_X10_addKeySign, ⟨rfl, by decide +kernel, by decide +kernel, by decide +kernel⟩⟩
theorem xs_X6_120 : XSiteV RX6 120 RX6 yX6_goesOn cX6_goesOn 1 (some .boolean) 0 := ⟨xg3 47 rfl rfl, xim_X6_goesOn, xse_X6_goesOn, xit_X6, xcd_X6_goesOn, ⟨rfl, by decide +kernel, by decide +kernel, by decide +kernel⟩⟩
theorem xs_X6_160 : XSiteV RX6 160 RX6 yX6_entry cX6_entry 5 none 2 := ⟨xg3 51 rfl rfl, xim_X6_entry, xse_X6_entry, xit_X6, xcd_X6_entry, ⟨rfl, by decide +kernel, by decide +kernel, by decide +kernel⟩⟩
theorem xs_X6_131 : XSiteV RX6 131 RX6 yX6_readSigns cX6_readSigns 5 none 2 := ⟨xg3 55 rfl rfl, xim_X6_readSigns, xse_X6_readSigns, xit_X6, xcd_X6_readSigns, ⟨rfl, by decide +kernel, by decide +kernel, by decide +kernel⟩⟩
theorem xs_X6_128 : XSiteV RX6 128 RX6 yX6_pass cX6_pass 2 none 1 := ⟨xg3 59 rfl rfl, xim_X6_pass, xse_X6_pass, xit_X6, xcd_X6_pass, ⟨rfl, by decide +kernel, by decide +kernel, by decide +kernel⟩⟩
theorem xs_X6_139 : XSiteV RX6 139 RX6 yX6_escaped cX6_escaped 3 (some .int) 0 := ⟨xg3 63 rfl rfl, xim_X6_escaped, xse_X6_escaped, xit_X6, xcd_X6_escaped, ⟨rfl, by decide +kernel, by decide +kernel, by decide +kernel⟩⟩
theorem xs_X6_144 : XSiteV RX6 144 RX6 yX6_hexFigure cX6_hexFigure 2 (some .int) 0 := ⟨xg3 67 rfl rfl, xim_X6_hexFigure, xse_X6_hexFigure, xit_X6, xcd_X6_hexFigure, ⟨rfl, by decide +kernel, by decide +kernel, by decide +kernel⟩⟩
theorem xs_X6_90 : XSiteS RX6 90 yX6_isFigure cX6_isFigure 1 (some .boolean) 1 := ⟨xg3 71 rfl rfl, xst_X6_isFigure, xit_X6, xcd_X6_isFigure, ⟨by decide +kernel, by decide +kernel, by decide +kernel⟩⟩
theorem xs_X6_142 : XSiteV RX6 142 RX9 yX9_add cX9_add 2 none 1 := ⟨xg3 74 rfl rfl, xim_X9_add, xse_X9_add, xit_X9, xcd_X9_add, ⟨rfl, by decide +kernel, by decide +kernel, by decide +kernel⟩⟩
theorem xs_X6_163 : XSiteV RX6 163 RX10 yX10_close cX10_close 2 none 1 := ⟨xg3 75 rfl rfl, xim_X10_close, xse_X10_close, xit_X10, xcd_X10_close, ⟨rfl, by decide +kernel, by decide +kernel, by decide +kernel⟩⟩
theorem xs_X10_105 : XSiteV RX10 105 RX10 yX10_has cX10_has 2 (some .boolean) 1 := ⟨xg3 79 rfl rfl, xim_X10_has, xse_X10_has, xit_X10, xcd_X10_has, ⟨rfl, by decide +kernel, by decide +kernel, by decide +kernel⟩⟩
theorem xs_X6_166 : XSiteV RX6 166 RX10 yX10_valueOf cX10_valueOf 5 (some .int) 2 := ⟨xg3 83 rfl rfl, xim_X10_valueOf, xse_X10_valueOf, xit_X10, xcd_X10_valueOf, ⟨rfl, by decide +kernel, by decide +kernel, by decide +kernel⟩⟩
theorem xs_X10_114 : XSiteV RX10 114 RX10 yX10_firstOfMap cX10_firstOfMap 3 (some .int) 1 := ⟨xg3 87 rfl rfl, xim_X10_firstOfMap, xse_X10_firstOfMap, xit_X10, xcd_X10_firstOfMap, ⟨rfl, by decide +kernel, by decide +kernel, by decide +kernel⟩⟩
theorem xs_X10_168 : XSiteV RX10 168 RX10 yX10_hasKey cX10_hasKey 5 (some .boolean) 2 := ⟨xg3 91 rfl rfl, xim_X10_hasKey, xse_X10_hasKey, xit_X10, xcd_X10_hasKey, ⟨rfl, by decide +kernel, by decide +kernel, by decide +kernel⟩⟩
theorem xs_X10_117 : XSiteV RX10 117 RX10 yX10_keyLength cX10_keyLength 2 (some .int) 1 := ⟨xg3 95 rfl rfl, xim_X10_keyLength, xse_X10_keyLength, xit_X10, xcd_X10_keyLength, ⟨rfl, by decide +kernel, by decide +kernel, by decide +kernel⟩⟩
theorem xs_X10_162 : XSiteV RX10 162 RX10 yX10_keySign cX10_keySign 4 (some .int) 2 := ⟨xg3 99 rfl rfl, xim_X10_keySign, xse_X10_keySign, xit_X10, xcd_X10_keySign, ⟨rfl, by decide +kernel, by decide +kernel, by decide +kernel⟩⟩
theorem xs_X10_56 : XSiteV RX10 56 RX10 yX10_next cX10_next 4 (some .int) 2 := ⟨xg3 103 rfl rfl, xim_X10_next, xse_X10_next, xit_X10, xcd_X10_next, ⟨rfl, by decide +kernel, by decide +kernel, by decide +kernel⟩⟩
theorem xs_X10_46 : Cond.methodLink RX10 46 Lib.Math.max.name ∈ xg ∧ Cond.static Lib.Math.max.name ∈ xg ∧ Cond.initialized "java/lang/Math" ∈ xg ∧ Cond.code Lib.Math.max.name Lib.Math.max.code 2 (some .int) ∈ xg := ⟨xg3 107 rfl rfl, xg1 41 rfl rfl, xg1 3 rfl rfl, xg1 42 rfl rfl⟩
theorem xs_X6_170 : XSiteV RX6 170 RX10 yX10_dropFrom cX10_dropFrom 2 none 1 := ⟨xg3 108 rfl rfl, xim_X10_dropFrom, xse_X10_dropFrom, xit_X10, xcd_X10_dropFrom, ⟨rfl, by decide +kernel, by decide +kernel, by decide +kernel⟩⟩
theorem xs_X6_173 : XSiteV RX6 173 RX10 yX10_replaceByLast cX10_replaceByLast 4 none 3 := ⟨xg3 112 rfl rfl, xim_X10_replaceByLast, xse_X10_replaceByLast, xit_X10, xcd_X10_replaceByLast, ⟨rfl, by decide +kernel, by decide +kernel, by decide +kernel⟩⟩
theorem xs_X10_231 : XSiteV RX10 231 RX10 yX10_copyOf cX10_copyOf 3 none 2 := ⟨xg3 116 rfl rfl, xim_X10_copyOf, xse_X10_copyOf, xit_X10, xcd_X10_copyOf, ⟨rfl, by decide +kernel, by decide +kernel, by decide +kernel⟩⟩
theorem xs_X10_204 : XSiteV RX10 204 RX10 yX10_clear cX10_clear 1 none 0 := ⟨xg3 120 rfl rfl, xim_X10_clear, xse_X10_clear, xit_X10, xcd_X10_clear, ⟨rfl, by decide +kernel, by decide +kernel, by decide +kernel⟩⟩
theorem xs_X10_207 : XSiteV RX10 207 RX10 yX10_append cX10_append 4 (some .int) 2 := ⟨xg3 121 rfl rfl, xim_X10_append, xse_X10_append, xit_X10, xcd_X10_append, ⟨rfl, by decide +kernel, by decide +kernel, by decide +kernel⟩⟩
theorem xs_X10_81 : XSiteV RX10 81 RX10 yX10_size cX10_size 2 (some .int) 1 := ⟨xg3 125 rfl rfl, xim_X10_size, xse_X10_size, xit_X10, xcd_X10_size, ⟨rfl, by decide +kernel, by decide +kernel, by decide +kernel⟩⟩
theorem xs_X10_196 : XSiteV RX10 196 RX10 yX10_isOverfull cX10_isOverfull 1 (some .boolean) 0 := ⟨xg3 129 rfl rfl, xim_X10_isOverfull, xse_X10_isOverfull, xit_X10, xcd_X10_isOverfull, ⟨rfl, by decide +kernel, by decide +kernel, by decide +kernel⟩⟩
theorem xs_X10_200 : XSiteV RX10 200 RX10 yX10_copyNodes cX10_copyNodes 5 none 4 := ⟨xg3 133 rfl rfl, xim_X10_copyNodes, xse_X10_copyNodes, xit_X10, xcd_X10_copyNodes, ⟨rfl, by decide +kernel, by decide +kernel, by decide +kernel⟩⟩
theorem xs_X10_221 : Cond.methodLink RX10 221 arraycopyName ∈ xg ∧ Cond.native arraycopyName ∈ xg ∧ Cond.static arraycopyName ∈ xg ∧ Cond.initialized "java/lang/System" ∈ xg := ⟨xg3 137 rfl rfl, xg3 139 rfl rfl, xg3 138 rfl rfl, xg1 18 rfl rfl⟩
theorem xs_X10_235 : XSiteV RX10 235 RX10 yX10_dropFrom cX10_dropFrom 2 none 1 := ⟨xg3 140 rfl rfl, xim_X10_dropFrom, xse_X10_dropFrom, xit_X10, xcd_X10_dropFrom, ⟨rfl, by decide +kernel, by decide +kernel, by decide +kernel⟩⟩
theorem xs_X10_238 : XSiteV RX10 238 RX10 yX10_replace cX10_replace 4 none 3 := ⟨xg3 141 rfl rfl, xim_X10_replace, xse_X10_replace, xit_X10, xcd_X10_replace, ⟨rfl, by decide +kernel, by decide +kernel, by decide +kernel⟩⟩
theorem xs_X10_227 : XSiteV RX10 227 RX10 yX10_splice cX10_splice 9 (some .boolean) 6 := ⟨xg3 145 rfl rfl, xim_X10_splice, xse_X10_splice, xit_X10, xcd_X10_splice, ⟨rfl, by decide +kernel, by decide +kernel, by decide +kernel⟩⟩
theorem xs_X6_87 : XSiteV RX6 87 RX6 yX6_text cX6_text 3 (some .int) 0 := ⟨xg3 149 rfl rfl, xim_X6_text, xse_X6_text, xit_X6, xcd_X6_text, ⟨rfl, by decide +kernel, by decide +kernel, by decide +kernel⟩⟩
theorem xs_X6_135 : XSiteV RX6 135 RX10 yX10_addSign cX10_addSign 4 none 2 := ⟨xg3 153 rfl rfl, xim_X10_addSign, xse_X10_addSign, xit_X10, xcd_X10_addSign, ⟨rfl, by decide +kernel, by decide +kernel, by decide +kernel⟩⟩
theorem xs_X6_94 : XSiteV RX6 94 RX6 yX6_number cX6_number 6 (some .int) 0 := ⟨xg3 157 rfl rfl, xim_X6_number, xse_X6_number, xit_X6, xcd_X6_number, ⟨rfl, by decide +kernel, by decide +kernel, by decide +kernel⟩⟩
theorem xs_X6_147 : XSiteV RX6 147 RX6 yX6_readFigure cX6_readFigure 1 none 0 := ⟨xg3 161 rfl rfl, xim_X6_readFigure, xse_X6_readFigure, xit_X6, xcd_X6_readFigure, ⟨rfl, by decide +kernel, by decide +kernel, by decide +kernel⟩⟩
theorem xs_X6_150 : XSiteV RX6 150 RX6 yX6_readFigures cX6_readFigures 2 none 0 := ⟨xg3 165 rfl rfl, xim_X6_readFigures, xse_X6_readFigures, xit_X6, xcd_X6_readFigures, ⟨rfl, by decide +kernel, by decide +kernel, by decide +kernel⟩⟩
theorem xs_X6_153 : XSiteV RX6 153 RX6 yX6_exponent cX6_exponent 3 (some .int) 0 := ⟨xg3 169 rfl rfl, xim_X6_exponent, xse_X6_exponent, xit_X6, xcd_X6_exponent, ⟨rfl, by decide +kernel, by decide +kernel, by decide +kernel⟩⟩
theorem xs_X6_156 : XSiteV RX6 156 RX10 yX10_setNumber cX10_setNumber 8 (some .boolean) 4 := ⟨xg3 173 rfl rfl, xim_X10_setNumber, xse_X10_setNumber, xit_X10, xcd_X10_setNumber, ⟨rfl, by decide +kernel, by decide +kernel, by decide +kernel⟩⟩
theorem xs_X10_132 : XSiteV RX10 132 RX10 yX10_addSign cX10_addSign 4 none 2 := ⟨xg3 177 rfl rfl, xim_X10_addSign, xse_X10_addSign, xit_X10, xcd_X10_addSign, ⟨rfl, by decide +kernel, by decide +kernel, by decide +kernel⟩⟩
theorem xs_X10_111 : Cond.methodLink RX10 111 Lib.Math.abs.name ∈ xg ∧ Cond.static Lib.Math.abs.name ∈ xg ∧ Cond.initialized "java/lang/Math" ∈ xg ∧ Cond.code Lib.Math.abs.name Lib.Math.abs.code 1 (some .int) ∈ xg := ⟨xg3 178 rfl rfl, xg3 179 rfl rfl, xg1 3 rfl rfl, xg3 180 rfl rfl⟩
theorem xs_X6_97 : XSiteV RX6 97 RX6 yX6_constant cX6_constant 3 (some .int) 1 := ⟨xg3 181 rfl rfl, xim_X6_constant, xse_X6_constant, xit_X6, xcd_X6_constant, ⟨rfl, by decide +kernel, by decide +kernel, by decide +kernel⟩⟩
theorem xs_X6_102 : XSiteV RX6 102 RX6 yX6_passAll cX6_passAll 3 none 1 := ⟨xg3 186 rfl rfl, xim_X6_passAll, xse_X6_passAll, xit_X6, xcd_X6_passAll, ⟨rfl, by decide +kernel, by decide +kernel, by decide +kernel⟩⟩
theorem xs_X6_117 : XSiteV RX6 117 RJ0 yJ0_length_8abf5 cJ0_length_8abf5 1 (some .int) 0 := ⟨xg3 190 rfl rfl, xim_J0_length_8abf5, xse_J0_length_8abf5, xit_J0, xcd_J0_length_8abf5, ⟨rfl, by decide +kernel, by decide +kernel, by decide +kernel⟩⟩
theorem xs_X6_124 : XSiteV RX6 124 RJ0 yJ0_charAt_5068e cJ0_charAt_5068e 2 (some .char) 1 := ⟨xg3 191 rfl rfl, xim_J0_charAt_5068e, xse_J0_charAt_5068e, xit_J0, xcd_J0_charAt_5068e, ⟨rfl, by decide +kernel, by decide +kernel, by decide +kernel⟩⟩
theorem xs_X6_113 : XSiteV RX6 113 RX10 yX10_addTruth cX10_addTruth 3 (some .int) 1 := ⟨xg3 194 rfl rfl, xim_X10_addTruth, xse_X10_addTruth, xit_X10, xcd_X10_addTruth, ⟨rfl, by decide +kernel, by decide +kernel, by decide +kernel⟩⟩
theorem xs_X10_194 : XSiteV RX10 194 RX10 yX10_add cX10_add 2 (some .int) 1 := ⟨xg3 198 rfl rfl, xim_X10_add, xse_X10_add, xit_X10, xcd_X10_add, ⟨rfl, by decide +kernel, by decide +kernel, by decide +kernel⟩⟩
theorem xs_X11_105 : XSiteV RX11 105 RX6 yX6_result cX6_result 1 (some (.object "Treeletter$Tree")) 0 := ⟨xg3 199 rfl rfl, xim_X6_result, xse_X6_result, xit_X6, xcd_X6_result, ⟨rfl, by decide +kernel, by decide +kernel, by decide +kernel⟩⟩
theorem xs_X11_109 : XSiteV RX11 109 RX10 yX10_copyOf cX10_copyOf 3 none 2 := ⟨xg3 203 rfl rfl, xim_X10_copyOf, xse_X10_copyOf, xit_X10, xcd_X10_copyOf, ⟨rfl, by decide +kernel, by decide +kernel, by decide +kernel⟩⟩
theorem xs_L_134 : XSiteV RL 134 RX11 yX11_wipe cX11_wipe 2 (some .int) 0 := ⟨xg4 14 rfl rfl, xim_X11_wipe, xse_X11_wipe, xit_X11, xcd_X11_wipe, ⟨rfl, by decide +kernel, by decide +kernel, by decide +kernel⟩⟩
theorem xs_X11_120 : XSiteV RX11 120 RX9 yX9_length cX9_length 1 (some .int) 0 := ⟨xg4 18 rfl rfl, xim_X9_length, xse_X9_length, xit_X9, xcd_X9_length, ⟨rfl, by decide +kernel, by decide +kernel, by decide +kernel⟩⟩
theorem xs_X11_134 : XSiteV RX11 134 RX9 yX9_clear cX9_clear 1 none 0 := ⟨xg4 19 rfl rfl, xim_X9_clear, xse_X9_clear, xit_X9, xcd_X9_clear, ⟨rfl, by decide +kernel, by decide +kernel, by decide +kernel⟩⟩
theorem xs_L_205 : XSiteV RL 205 RX11 yX11_quarrels cX11_quarrels 1 (some .int) 0 := ⟨xg4 20 rfl rfl, xim_X11_quarrels, xse_X11_quarrels, xit_X11, xcd_X11_quarrels, ⟨rfl, by decide +kernel, by decide +kernel, by decide +kernel⟩⟩
theorem xs_X11_260 : XSiteV RX11 260 RX4 yX4_count cX4_count 1 (some .int) 0 := ⟨xg4 24 rfl rfl, xim_X4_count, xse_X4_count, xit_X4, xcd_X4_count, ⟨rfl, by decide +kernel, by decide +kernel, by decide +kernel⟩⟩
theorem xs_L_125 : XSiteW RL 125 yL_write cL_write 6 (some .int) [(0, 11, 14, 13), (0, 11, 18, 15)] 4 := ⟨xg4 28 rfl rfl, xst_L_write, xit_L, xg4 30 rfl rfl, ⟨by decide +kernel, by decide +kernel, by decide +kernel⟩⟩
theorem xs_L_7 : XSiteV RL 7 RX11 yX11_write cX11_write 5 (some .int) 2 := ⟨xg4 33 rfl rfl, xim_X11_write, xse_X11_write, xit_X11, xcd_X11_write, ⟨rfl, by decide +kernel, by decide +kernel, by decide +kernel⟩⟩
theorem xs_X11_113 : XSiteS RX11 113 yX11_areSigns cX11_areSigns 5 (some .boolean) 2 := ⟨xg4 37 rfl rfl, xst_X11_areSigns, xit_X11, xcd_X11_areSigns, ⟨by decide +kernel, by decide +kernel, by decide +kernel⟩⟩
theorem xs_X11_127 : XSiteS RX11 127 yX11_letterAt cX11_letterAt 3 (some .int) 2 := ⟨xg4 40 rfl rfl, xst_X11_letterAt, xit_X11, xcd_X11_letterAt, ⟨by decide +kernel, by decide +kernel, by decide +kernel⟩⟩
theorem xs_X11_131 : XSiteV RX11 131 RX9 yX9_add cX9_add 2 none 1 := ⟨xg4 121 rfl rfl, xim_X9_add, xse_X9_add, xit_X9, xcd_X9_add, ⟨rfl, by decide +kernel, by decide +kernel, by decide +kernel⟩⟩
theorem xs_L_138 : XSiteW RL 138 yL_paper cL_paper 5 (some .int) [(0, 9, 12, 21), (0, 9, 16, 13)] 4 := ⟨xg4 122 rfl rfl, xst_L_paper, xit_L, xg4 124 rfl rfl, ⟨by decide +kernel, by decide +kernel, by decide +kernel⟩⟩
theorem xs_L_17 : XSiteV RL 17 RX11 yX11_paper cX11_paper 6 (some .long) 2 := ⟨xg4 126 rfl rfl, xim_X11_paper, xse_X11_paper, xit_X11, xcd_X11_paper, ⟨rfl, by decide +kernel, by decide +kernel, by decide +kernel⟩⟩
theorem xs_X11_142 : XSiteV RX11 142 RX9 yX9_at cX9_at 2 (some .int) 1 := ⟨xg4 146 rfl rfl, xim_X9_at, xse_X9_at, xit_X9, xcd_X9_at, ⟨rfl, by decide +kernel, by decide +kernel, by decide +kernel⟩⟩
theorem xs_L_142 : XSiteW RL 142 yL_rule cL_rule 4 (some .int) [(0, 9, 12, 13)] 3 := ⟨xg4 147 rfl rfl, xst_L_rule, xit_L, xg4 149 rfl rfl, ⟨by decide +kernel, by decide +kernel, by decide +kernel⟩⟩
theorem xs_L_23 : XSiteV RL 23 RX11 yX11_rule cX11_rule 3 (some .int) 1 := ⟨xg4 150 rfl rfl, xim_X11_rule, xse_X11_rule, xit_X11, xcd_X11_rule, ⟨rfl, by decide +kernel, by decide +kernel, by decide +kernel⟩⟩
theorem xs_L_146 : XSiteW RL 146 yL_read cL_read 3 (some .int) [(0, 8, 11, 15)] 2 := ⟨xg4 154 rfl rfl, xst_L_read, xit_L, xg4 156 rfl rfl, ⟨by decide +kernel, by decide +kernel, by decide +kernel⟩⟩
theorem xs_L_27 : XSiteV RL 27 RX11 yX11_read cX11_read 2 (some .int) 0 := ⟨xg4 157 rfl rfl, xim_X11_read, xse_X11_read, xit_X11, xcd_X11_read, ⟨rfl, by decide +kernel, by decide +kernel, by decide +kernel⟩⟩
theorem xs_X11_153 : XSiteV RX11 153 RX11 yX11_admit cX11_admit 3 (some .int) 1 := ⟨xg4 161 rfl rfl, xim_X11_admit, xse_X11_admit, xit_X11, xcd_X11_admit, ⟨rfl, by decide +kernel, by decide +kernel, by decide +kernel⟩⟩
theorem xs_X11_308 : XSiteV RX11 308 RX10 yX10_isDocument cX10_isDocument 1 (some .boolean) 0 := ⟨xg4 165 rfl rfl, xim_X10_isDocument, xse_X10_isDocument, xit_X10, xcd_X10_isDocument, ⟨rfl, by decide +kernel, by decide +kernel, by decide +kernel⟩⟩
theorem xs_X10_78 : XSiteV RX10 78 RX10 yX10_depth cX10_depth 6 (some .int) 2 := ⟨xg4 169 rfl rfl, xim_X10_depth, xse_X10_depth, xit_X10, xcd_X10_depth, ⟨rfl, by decide +kernel, by decide +kernel, by decide +kernel⟩⟩
theorem xs_X10_59 : XSiteV RX10 59 RX10 yX10_isGroup cX10_isGroup 2 (some .boolean) 1 := ⟨xg4 173 rfl rfl, xim_X10_isGroup, xse_X10_isGroup, xit_X10, xcd_X10_isGroup, ⟨rfl, by decide +kernel, by decide +kernel, by decide +kernel⟩⟩
theorem xs_X10_69 : XSiteV RX10 69 RX10 yX10_after cX10_after 2 (some .int) 1 := ⟨xg4 177 rfl rfl, xim_X10_after, xse_X10_after, xit_X10, xcd_X10_after, ⟨rfl, by decide +kernel, by decide +kernel, by decide +kernel⟩⟩
theorem xs_L_150 : XSiteW RL 150 yL_print cL_print 5 (some .int) [(0, 10, 13, 21), (0, 10, 17, 13)] 4 := ⟨xg4 181 rfl rfl, xst_L_print, xit_L, xg4 183 rfl rfl, ⟨by decide +kernel, by decide +kernel, by decide +kernel⟩⟩
theorem xs_L_31 : XSiteV RL 31 RX11 yX11_print cX11_print 4 (some .int) 2 := ⟨xg4 184 rfl rfl, xim_X11_print, xse_X11_print, xit_X11, xcd_X11_print, ⟨rfl, by decide +kernel, by decide +kernel, by decide +kernel⟩⟩
theorem xs_X11_157 : XSiteV RX11 157 RX11 yX11_document cX11_document 3 (some (.object "Treeletter$Tree")) 1 := ⟨xg4 188 rfl rfl, xim_X11_document, xse_X11_document, xit_X11, xcd_X11_document, ⟨rfl, by decide +kernel, by decide +kernel, by decide +kernel⟩⟩
theorem xs_X11_161 : XSiteSN RX11 161 yX8_value cX8_value 5 none 5 := ⟨⟨"Treeletter", xt4 192 rfl⟩, xst_X8_value, xit_X8, xcd_X8_value, ⟨by decide +kernel, by decide +kernel, by decide +kernel⟩⟩
theorem xs_X8_9 : XSiteV RX8 9 RX10 yX10_kind cX10_kind 2 (some .int) 1 := ⟨xg4 195 rfl rfl, xim_X10_kind, xse_X10_kind, xit_X10, xcd_X10_kind, ⟨rfl, by decide +kernel, by decide +kernel, by decide +kernel⟩⟩
theorem xs_X8_23 : XSiteV RX8 23 RX10 yX10_isTrue cX10_isTrue 2 (some .boolean) 1 := ⟨xg4 200 rfl rfl, xim_X10_isTrue, xse_X10_isTrue, xit_X10, xcd_X10_isTrue, ⟨rfl, by decide +kernel, by decide +kernel, by decide +kernel⟩⟩
theorem xs_X10_42 : XSiteV RX10 42 RX10 yX10_is cX10_is 3 (some .boolean) 2 := ⟨xg4 204 rfl rfl, xim_X10_is, xse_X10_is, xit_X10, xcd_X10_is, ⟨rfl, by decide +kernel, by decide +kernel, by decide +kernel⟩⟩
theorem xs_X8_31 : XSiteS RX8 31 yX8_number cX8_number 3 none 3 := ⟨xg4 210 rfl rfl, xst_X8_number, xit_X8, xcd_X8_number, ⟨by decide +kernel, by decide +kernel, by decide +kernel⟩⟩
theorem xs_X8_44 : XSiteV RX8 44 RX10 yX10_signsTo cX10_signsTo 4 none 2 := ⟨xg4 213 rfl rfl, xim_X10_signsTo, xse_X10_signsTo, xit_X10, xcd_X10_signsTo, ⟨rfl, by decide +kernel, by decide +kernel, by decide +kernel⟩⟩
theorem xs_X10_139 : XSiteV RX10 139 RX10 yX10_lengthOf cX10_lengthOf 2 (some .int) 1 := ⟨xg4 217 rfl rfl, xim_X10_lengthOf, xse_X10_lengthOf, xit_X10, xcd_X10_lengthOf, ⟨rfl, by decide +kernel, by decide +kernel, by decide +kernel⟩⟩
theorem xs_X10_136 : XSiteV RX10 136 RX10 yX10_signAt cX10_signAt 4 (some .int) 2 := ⟨xg4 221 rfl rfl, xim_X10_signAt, xse_X10_signAt, xit_X10, xcd_X10_signAt, ⟨rfl, by decide +kernel, by decide +kernel, by decide +kernel⟩⟩
theorem xs_X10_145 : XSiteV RX10 145 RX9 yX9_add cX9_add 2 none 1 := ⟨xg4 225 rfl rfl, xim_X9_add, xse_X9_add, xit_X9, xcd_X9_add, ⟨rfl, by decide +kernel, by decide +kernel, by decide +kernel⟩⟩
theorem xs_X8_48 : XSiteV RX8 48 RX10 yX10_power cX10_power 2 (some .int) 1 := ⟨xg4 226 rfl rfl, xim_X10_power, xse_X10_power, xit_X10, xcd_X10_power, ⟨rfl, by decide +kernel, by decide +kernel, by decide +kernel⟩⟩
theorem xs_X8_51 : XSiteV RX8 51 RX9 yX9_add cX9_add 2 none 1 := ⟨xg4 230 rfl rfl, xim_X9_add, xse_X9_add, xit_X9, xcd_X9_add, ⟨rfl, by decide +kernel, by decide +kernel, by decide +kernel⟩⟩
theorem xs_X8_55 : XSiteV RX8 55 RX9 yX9_addNumber cX9_addNumber 3 none 1 := ⟨xg4 231 rfl rfl, xim_X9_addNumber, xse_X9_addNumber, xit_X9, xcd_X9_addNumber, ⟨rfl, by decide +kernel, by decide +kernel, by decide +kernel⟩⟩
theorem xs_X9_43 : Cond.methodLink RX9 43 Lib.Math.abs.name ∈ xg ∧ Cond.static Lib.Math.abs.name ∈ xg ∧ Cond.initialized "java/lang/Math" ∈ xg ∧ Cond.code Lib.Math.abs.name Lib.Math.abs.code 1 (some .int) ∈ xg := ⟨xg4 235 rfl rfl, xg3 179 rfl rfl, xg1 3 rfl rfl, xg3 180 rfl rfl⟩
theorem xs_X8_37 : XSiteS RX8 37 yX8_text cX8_text 4 none 3 := ⟨xg4 236 rfl rfl, xst_X8_text, xit_X8, xcd_X8_text, ⟨by decide +kernel, by decide +kernel, by decide +kernel⟩⟩
theorem xs_X8_58 : XSiteV RX8 58 RX10 yX10_lengthOf cX10_lengthOf 2 (some .int) 1 := ⟨xg4 239 rfl rfl, xim_X10_lengthOf, xse_X10_lengthOf, xit_X10, xcd_X10_lengthOf, ⟨rfl, by decide +kernel, by decide +kernel, by decide +kernel⟩⟩
theorem xs_X8_61 : XSiteV RX8 61 RX10 yX10_signAt cX10_signAt 4 (some .int) 2 := ⟨xg5 0 rfl rfl, xim_X10_signAt, xse_X10_signAt, xit_X10, xcd_X10_signAt, ⟨rfl, by decide +kernel, by decide +kernel, by decide +kernel⟩⟩
theorem xs_X8_65 : XSiteV RX8 65 RX9 yX9_addWritten cX9_addWritten 2 none 1 := ⟨xg5 1 rfl rfl, xim_X9_addWritten, xse_X9_addWritten, xit_X9, xcd_X9_addWritten, ⟨rfl, by decide +kernel, by decide +kernel, by decide +kernel⟩⟩
theorem xs_X8_40 : XSiteS RX8 40 yX8_group cX8_group 10 none 5 := ⟨xg5 5 rfl rfl, xst_X8_group, xit_X8, xcd_X8_group, ⟨by decide +kernel, by decide +kernel, by decide +kernel⟩⟩
theorem xs_X8_74 : XSiteV RX8 74 RX10 yX10_is cX10_is 3 (some .boolean) 2 := ⟨xg5 8 rfl rfl, xim_X10_is, xse_X10_is, xit_X10, xcd_X10_is, ⟨rfl, by decide +kernel, by decide +kernel, by decide +kernel⟩⟩
theorem xs_X8_78 : XSiteV RX8 78 RX10 yX10_first cX10_first 3 (some .int) 1 := ⟨xg5 9 rfl rfl, xim_X10_first, xse_X10_first, xit_X10, xcd_X10_first, ⟨rfl, by decide +kernel, by decide +kernel, by decide +kernel⟩⟩
theorem xs_X8_81 : XSiteV RX8 81 RX10 yX10_nextByKey cX10_nextByKey 7 (some .int) 2 := ⟨xg5 13 rfl rfl, xim_X10_nextByKey, xse_X10_nextByKey, xit_X10, xcd_X10_nextByKey, ⟨rfl, by decide +kernel, by decide +kernel, by decide +kernel⟩⟩
theorem xs_X10_165 : XSiteV RX10 165 RX10 yX10_orderOfKeys cX10_orderOfKeys 7 (some .int) 3 := ⟨xg5 17 rfl rfl, xim_X10_orderOfKeys, xse_X10_orderOfKeys, xit_X10, xcd_X10_orderOfKeys, ⟨rfl, by decide +kernel, by decide +kernel, by decide +kernel⟩⟩
theorem xs_X10_66 : Cond.methodLink RX10 66 Lib.Math.min.name ∈ xg ∧ Cond.static Lib.Math.min.name ∈ xg ∧ Cond.initialized "java/lang/Math" ∈ xg ∧ Cond.code Lib.Math.min.name Lib.Math.min.code 2 (some .int) ∈ xg := ⟨xg5 21 rfl rfl, xg5 22 rfl rfl, xg1 3 rfl rfl, xg5 23 rfl rfl⟩
theorem xs_X8_84 : XSiteS RX8 84 yX8_line cX8_line 3 none 2 := ⟨xg5 24 rfl rfl, xst_X8_line, xit_X8, xcd_X8_line, ⟨by decide +kernel, by decide +kernel, by decide +kernel⟩⟩
theorem xs_X8_87 : XSiteS RX8 87 yX8_key cX8_key 4 none 3 := ⟨xg5 28 rfl rfl, xst_X8_key, xit_X8, xcd_X8_key, ⟨by decide +kernel, by decide +kernel, by decide +kernel⟩⟩
theorem xs_X8_68 : XSiteV RX8 68 RX10 yX10_keyLength cX10_keyLength 2 (some .int) 1 := ⟨xg5 31 rfl rfl, xim_X10_keyLength, xse_X10_keyLength, xit_X10, xcd_X10_keyLength, ⟨rfl, by decide +kernel, by decide +kernel, by decide +kernel⟩⟩
theorem xs_X8_71 : XSiteV RX8 71 RX10 yX10_keySign cX10_keySign 4 (some .int) 2 := ⟨xg5 32 rfl rfl, xim_X10_keySign, xse_X10_keySign, xit_X10, xcd_X10_keySign, ⟨rfl, by decide +kernel, by decide +kernel, by decide +kernel⟩⟩
theorem xs_X8_94 : XSiteS RX8 94 yX8_value cX8_value 5 none 5 := ⟨xg5 35 rfl rfl, xst_X8_value, xit_X8, xcd_X8_value, ⟨by decide +kernel, by decide +kernel, by decide +kernel⟩⟩
theorem xs_X8_97 : XSiteV RX8 97 RX10 yX10_next cX10_next 4 (some .int) 2 := ⟨xg5 36 rfl rfl, xim_X10_next, xse_X10_next, xit_X10, xcd_X10_next, ⟨rfl, by decide +kernel, by decide +kernel, by decide +kernel⟩⟩
theorem xs_L_153 : XSiteW RL 153 yL_node cL_node 6 (some .int) [(0, 12, 15, 21), (0, 12, 19, 13)] 5 := ⟨xg5 37 rfl rfl, xst_L_node, xit_L, xg5 39 rfl rfl, ⟨by decide +kernel, by decide +kernel, by decide +kernel⟩⟩
theorem xs_L_35 : XSiteV RL 35 RX11 yX11_node cX11_node 5 (some .int) 3 := ⟨xg5 40 rfl rfl, xim_X11_node, xse_X11_node, xit_X11, xcd_X11_node, ⟨rfl, by decide +kernel, by decide +kernel, by decide +kernel⟩⟩
theorem xs_X11_165 : XSiteV RX11 165 RX11 yX11_documentWith cX11_documentWith 4 (some (.object "Treeletter$Tree")) 2 := ⟨xg5 44 rfl rfl, xim_X11_documentWith, xse_X11_documentWith, xit_X11, xcd_X11_documentWith, ⟨rfl, by decide +kernel, by decide +kernel, by decide +kernel⟩⟩
theorem xs_X11_318 : XSiteV RX11 318 RX10 yX10_has cX10_has 2 (some .boolean) 1 := ⟨xg5 48 rfl rfl, xim_X10_has, xse_X10_has, xit_X10, xcd_X10_has, ⟨rfl, by decide +kernel, by decide +kernel, by decide +kernel⟩⟩
theorem xs_X11_169 : XSiteV RX11 169 RX10 yX10_about cX10_about 3 (some .int) 2 := ⟨xg5 49 rfl rfl, xim_X10_about, xse_X10_about, xit_X10, xcd_X10_about, ⟨rfl, by decide +kernel, by decide +kernel, by decide +kernel⟩⟩
theorem xs_X10_75 : XSiteV RX10 75 RX10 yX10_kind cX10_kind 2 (some .int) 1 := ⟨xg5 53 rfl rfl, xim_X10_kind, xse_X10_kind, xit_X10, xcd_X10_kind, ⟨rfl, by decide +kernel, by decide +kernel, by decide +kernel⟩⟩
theorem xs_X10_84 : XSiteV RX10 84 RX10 yX10_length cX10_length 2 (some .int) 1 := ⟨xg5 54 rfl rfl, xim_X10_length, xse_X10_length, xit_X10, xcd_X10_length, ⟨rfl, by decide +kernel, by decide +kernel, by decide +kernel⟩⟩
theorem xs_X10_63 : XSiteV RX10 63 RX10 yX10_values cX10_values 4 (some .int) 1 := ⟨xg5 58 rfl rfl, xim_X10_values, xse_X10_values, xit_X10, xcd_X10_values, ⟨rfl, by decide +kernel, by decide +kernel, by decide +kernel⟩⟩
theorem xs_X10_52 : XSiteV RX10 52 RX10 yX10_first cX10_first 3 (some .int) 1 := ⟨xg5 62 rfl rfl, xim_X10_first, xse_X10_first, xit_X10, xcd_X10_first, ⟨rfl, by decide +kernel, by decide +kernel, by decide +kernel⟩⟩
theorem xs_X10_87 : XSiteV RX10 87 RX10 yX10_power cX10_power 2 (some .int) 1 := ⟨xg5 63 rfl rfl, xim_X10_power, xse_X10_power, xit_X10, xcd_X10_power, ⟨rfl, by decide +kernel, by decide +kernel, by decide +kernel⟩⟩
theorem xs_X10_90 : XSiteV RX10 90 RX10 yX10_figures cX10_figures 2 (some .int) 1 := ⟨xg5 64 rfl rfl, xim_X10_figures, xse_X10_figures, xit_X10, xcd_X10_figures, ⟨rfl, by decide +kernel, by decide +kernel, by decide +kernel⟩⟩
theorem xs_X10_93 : XSiteV RX10 93 RX10 yX10_signOf cX10_signOf 3 (some .int) 1 := ⟨xg5 68 rfl rfl, xim_X10_signOf, xse_X10_signOf, xit_X10, xcd_X10_signOf, ⟨rfl, by decide +kernel, by decide +kernel, by decide +kernel⟩⟩
theorem xs_X10_72 : XSiteV RX10 72 RX10 yX10_ownerOf cX10_ownerOf 3 (some .int) 1 := ⟨xg5 72 rfl rfl, xim_X10_ownerOf, xse_X10_ownerOf, xit_X10, xcd_X10_ownerOf, ⟨rfl, by decide +kernel, by decide +kernel, by decide +kernel⟩⟩
theorem xs_X10_96 : XSiteV RX10 96 RX10 yX10_placeOf cX10_placeOf 5 (some .int) 1 := ⟨xg5 76 rfl rfl, xim_X10_placeOf, xse_X10_placeOf, xit_X10, xcd_X10_placeOf, ⟨rfl, by decide +kernel, by decide +kernel, by decide +kernel⟩⟩
theorem xs_L_157 : XSiteW RL 157 yL_tell cL_tell 6 (some .int) [(0, 12, 15, 21), (0, 12, 19, 13), (0, 12, 23, 15)] 5 := ⟨xg5 80 rfl rfl, xst_L_tell, xit_L, xg5 82 rfl rfl, ⟨by decide +kernel, by decide +kernel, by decide +kernel⟩⟩
theorem xs_L_39 : XSiteV RL 39 RX11 yX11_tell cX11_tell 5 (some .int) 3 := ⟨xg5 83 rfl rfl, xim_X11_tell, xse_X11_tell, xit_X11, xcd_X11_tell, ⟨rfl, by decide +kernel, by decide +kernel, by decide +kernel⟩⟩
theorem xs_X11_173 : XSiteS RX11 173 yX11_canTell cX11_canTell 3 (some .boolean) 3 := ⟨xg5 87 rfl rfl, xst_X11_canTell, xit_X11, xcd_X11_canTell, ⟨by decide +kernel, by decide +kernel, by decide +kernel⟩⟩
theorem xs_X11_191 : XSiteV RX11 191 RX10 yX10_is cX10_is 3 (some .boolean) 2 := ⟨xg5 90 rfl rfl, xim_X10_is, xse_X10_is, xit_X10, xcd_X10_is, ⟨rfl, by decide +kernel, by decide +kernel, by decide +kernel⟩⟩
theorem xs_X11_315 : XSiteV RX11 315 RX10 yX10_ownerOf cX10_ownerOf 3 (some .int) 1 := ⟨xg5 91 rfl rfl, xim_X10_ownerOf, xse_X10_ownerOf, xit_X10, xcd_X10_ownerOf, ⟨rfl, by decide +kernel, by decide +kernel, by decide +kernel⟩⟩
theorem xs_X11_177 : XSiteV RX11 177 RX10 yX10_signsTo cX10_signsTo 4 none 2 := ⟨xg5 92 rfl rfl, xim_X10_signsTo, xse_X10_signsTo, xit_X10, xcd_X10_signsTo, ⟨rfl, by decide +kernel, by decide +kernel, by decide +kernel⟩⟩
theorem xs_X11_181 : XSiteV RX11 181 RX10 yX10_keyTo cX10_keyTo 4 none 2 := ⟨xg5 93 rfl rfl, xim_X10_keyTo, xse_X10_keyTo, xit_X10, xcd_X10_keyTo, ⟨rfl, by decide +kernel, by decide +kernel, by decide +kernel⟩⟩
theorem xs_X11_184 : XSiteV RX11 184 RX10 yX10_pathTo cX10_pathTo 4 none 2 := ⟨xg5 97 rfl rfl, xim_X10_pathTo, xse_X10_pathTo, xit_X10, xcd_X10_pathTo, ⟨rfl, by decide +kernel, by decide +kernel, by decide +kernel⟩⟩
theorem xs_X10_187 : XSiteV RX10 187 RX10 yX10_stepTo cX10_stepTo 5 none 2 := ⟨xg5 101 rfl rfl, xim_X10_stepTo, xse_X10_stepTo, xit_X10, xcd_X10_stepTo, ⟨rfl, by decide +kernel, by decide +kernel, by decide +kernel⟩⟩
theorem xs_X10_191 : XSiteV RX10 191 RX9 yX9_addNumber cX9_addNumber 3 none 1 := ⟨xg5 105 rfl rfl, xim_X9_addNumber, xse_X9_addNumber, xit_X9, xcd_X9_addNumber, ⟨rfl, by decide +kernel, by decide +kernel, by decide +kernel⟩⟩
theorem xs_L_160 : XSiteW RL 160 yL_equal cL_equal 5 (some .int) [(0, 17, 20, 21)] 4 := ⟨xg5 106 rfl rfl, xst_L_equal, xit_L, xg5 108 rfl rfl, ⟨by decide +kernel, by decide +kernel, by decide +kernel⟩⟩
theorem xs_L_42 : XSiteV RL 42 RX11 yX11_equal cX11_equal 5 (some .boolean) 2 := ⟨xg5 109 rfl rfl, xim_X11_equal, xse_X11_equal, xit_X11, xcd_X11_equal, ⟨rfl, by decide +kernel, by decide +kernel, by decide +kernel⟩⟩
theorem xs_X11_187 : XSiteN RX11 187 RX10 yX10_same cX10_same 10 (some .boolean) 4 := ⟨⟨"Treeletter", xt5 113 rfl⟩, xim_X10_same, xse_X10_same, xit_X10, xcd_X10_same, ⟨rfl, by decide +kernel, by decide +kernel, by decide +kernel⟩⟩
theorem xs_X10_176 : XSiteV RX10 176 RX10 yX10_sameSigns cX10_sameSigns 6 (some .boolean) 3 := ⟨xg5 117 rfl rfl, xim_X10_sameSigns, xse_X10_sameSigns, xit_X10, xcd_X10_sameSigns, ⟨rfl, by decide +kernel, by decide +kernel, by decide +kernel⟩⟩
theorem xs_X10_184 : XSiteV RX10 184 RX10 yX10_powerOrTruth cX10_powerOrTruth 2 (some .int) 1 := ⟨xg5 121 rfl rfl, xim_X10_powerOrTruth, xse_X10_powerOrTruth, xit_X10, xcd_X10_powerOrTruth, ⟨rfl, by decide +kernel, by decide +kernel, by decide +kernel⟩⟩
theorem xs_X10_120 : XSiteV RX10 120 RX10 yX10_valueLike cX10_valueLike 6 (some .int) 3 := ⟨xg5 125 rfl rfl, xim_X10_valueLike, xse_X10_valueLike, xit_X10, xcd_X10_valueLike, ⟨rfl, by decide +kernel, by decide +kernel, by decide +kernel⟩⟩
theorem xs_X10_180 : XSiteV RX10 180 RX10 yX10_same cX10_same 10 (some .boolean) 4 := ⟨xg5 129 rfl rfl, xim_X10_same, xse_X10_same, xit_X10, xcd_X10_same, ⟨rfl, by decide +kernel, by decide +kernel, by decide +kernel⟩⟩
theorem xs_L_163 : XSiteW RL 163 yL_compare cL_compare 5 (some .int) [(0, 10, 13, 21), (0, 10, 17, 15)] 4 := ⟨xg5 130 rfl rfl, xst_L_compare, xit_L, xg5 132 rfl rfl, ⟨by decide +kernel, by decide +kernel, by decide +kernel⟩⟩
theorem xs_L_46 : XSiteV RL 46 RX11 yX11_compare cX11_compare 5 (some .int) 2 := ⟨xg5 133 rfl rfl, xim_X11_compare, xse_X11_compare, xit_X11, xcd_X11_compare, ⟨rfl, by decide +kernel, by decide +kernel, by decide +kernel⟩⟩
theorem xs_X11_195 : XSiteV RX11 195 RX10 yX10_orderOfNumbers cX10_orderOfNumbers 7 (some .int) 3 := ⟨xg5 137 rfl rfl, xim_X10_orderOfNumbers, xse_X10_orderOfNumbers, xit_X10, xcd_X10_orderOfNumbers, ⟨rfl, by decide +kernel, by decide +kernel, by decide +kernel⟩⟩
theorem xs_X10_142 : XSiteS RX10 142 yX10_order cX10_order 2 (some .int) 2 := ⟨xg5 141 rfl rfl, xst_X10_order, xit_X10, xcd_X10_order, ⟨by decide +kernel, by decide +kernel, by decide +kernel⟩⟩
theorem xs_X10_108 : XSiteV RX10 108 RX10 yX10_digit cX10_digit 4 (some .int) 2 := ⟨xg5 144 rfl rfl, xim_X10_digit, xse_X10_digit, xit_X10, xcd_X10_digit, ⟨rfl, by decide +kernel, by decide +kernel, by decide +kernel⟩⟩
theorem xs_L_166 : XSiteW RL 166 yL_digest cL_digest 5 (some .int) [(0, 10, 13, 21)] 4 := ⟨xg5 148 rfl rfl, xst_L_digest, xit_L, xg5 150 rfl rfl, ⟨by decide +kernel, by decide +kernel, by decide +kernel⟩⟩
theorem xs_L_49 : XSiteV RL 49 RX11 yX11_digest cX11_digest 4 (some .int) 2 := ⟨xg5 151 rfl rfl, xim_X11_digest, xse_X11_digest, xit_X11, xcd_X11_digest, ⟨rfl, by decide +kernel, by decide +kernel, by decide +kernel⟩⟩
theorem xs_X11_199 : XSiteV RX11 199 RX9 yX9_digestOf cX9_digestOf 3 (some .int) 0 := ⟨xg5 155 rfl rfl, xim_X9_digestOf, xse_X9_digestOf, xit_X9, xcd_X9_digestOf, ⟨rfl, by decide +kernel, by decide +kernel, by decide +kernel⟩⟩
theorem xs_X9_39 : XSiteV RX9 39 RX9 yX9_at cX9_at 2 (some .int) 1 := ⟨xg5 159 rfl rfl, xim_X9_at, xse_X9_at, xit_X9, xcd_X9_at, ⟨rfl, by decide +kernel, by decide +kernel, by decide +kernel⟩⟩
theorem xs_L_169 : XSiteW RL 169 yL_take cL_take 5 (some .int) [(0, 10, 13, 21), (0, 10, 17, 15)] 4 := ⟨xg5 161 rfl rfl, xst_L_take, xit_L, xg5 163 rfl rfl, ⟨by decide +kernel, by decide +kernel, by decide +kernel⟩⟩
theorem xs_L_52 : XSiteV RL 52 RX11 yX11_take cX11_take 4 (some .int) 2 := ⟨xg5 164 rfl rfl, xim_X11_take, xse_X11_take, xit_X11, xcd_X11_take, ⟨rfl, by decide +kernel, by decide +kernel, by decide +kernel⟩⟩
theorem xs_L_172 : XSiteW RL 172 yL_sorted cL_sorted 4 (some .int) [(0, 9, 12, 21), (0, 9, 15, 15)] 3 := ⟨xg5 168 rfl rfl, xst_L_sorted, xit_L, xg5 170 rfl rfl, ⟨by decide +kernel, by decide +kernel, by decide +kernel⟩⟩
theorem xs_L_55 : XSiteV RL 55 RX11 yX11_sorted cX11_sorted 3 (some .int) 1 := ⟨xg5 171 rfl rfl, xim_X11_sorted, xse_X11_sorted, xit_X11, xcd_X11_sorted, ⟨rfl, by decide +kernel, by decide +kernel, by decide +kernel⟩⟩
theorem xs_X11_202 : XSiteV RX11 202 RX10 yX10_clear cX10_clear 1 none 0 := ⟨xg5 175 rfl rfl, xim_X10_clear, xse_X10_clear, xit_X10, xcd_X10_clear, ⟨rfl, by decide +kernel, by decide +kernel, by decide +kernel⟩⟩
theorem xs_X11_203 : XSiteN RX11 203 RX10 yX10_appendInOrder cX10_appendInOrder 8 none 3 := ⟨⟨"Treeletter", xt5 176 rfl⟩, xim_X10_appendInOrder, xse_X10_appendInOrder, xit_X10, xcd_X10_appendInOrder, ⟨rfl, by decide +kernel, by decide +kernel, by decide +kernel⟩⟩
theorem xs_X10_211 : XSiteV RX10 211 RX10 yX10_nextByKey cX10_nextByKey 7 (some .int) 2 := ⟨xg5 180 rfl rfl, xim_X10_nextByKey, xse_X10_nextByKey, xit_X10, xcd_X10_nextByKey, ⟨rfl, by decide +kernel, by decide +kernel, by decide +kernel⟩⟩
theorem xs_X10_214 : XSiteV RX10 214 RX10 yX10_appendInOrder cX10_appendInOrder 8 none 3 := ⟨xg5 181 rfl rfl, xim_X10_appendInOrder, xse_X10_appendInOrder, xit_X10, xcd_X10_appendInOrder, ⟨rfl, by decide +kernel, by decide +kernel, by decide +kernel⟩⟩
theorem xs_X10_218 : XSiteV RX10 218 RX10 yX10_close cX10_close 2 none 1 := ⟨xg5 182 rfl rfl, xim_X10_close, xse_X10_close, xit_X10, xcd_X10_close, ⟨rfl, by decide +kernel, by decide +kernel, by decide +kernel⟩⟩
theorem xs_L_175 : XSiteW RL 175 yL_both cL_both 5 (some .int) [(0, 10, 13, 21), (0, 10, 17, 15)] 4 := ⟨xg5 183 rfl rfl, xst_L_both, xit_L, xg5 185 rfl rfl, ⟨by decide +kernel, by decide +kernel, by decide +kernel⟩⟩
theorem xs_L_58 : XSiteV RL 58 RX11 yX11_both cX11_both 6 (some .int) 2 := ⟨xg5 186 rfl rfl, xim_X11_both, xse_X11_both, xit_X11, xcd_X11_both, ⟨rfl, by decide +kernel, by decide +kernel, by decide +kernel⟩⟩
theorem xs_X11_207 : XSiteV RX11 207 RX10 yX10_add cX10_add 2 (some .int) 1 := ⟨xg5 190 rfl rfl, xim_X10_add, xse_X10_add, xit_X10, xcd_X10_add, ⟨rfl, by decide +kernel, by decide +kernel, by decide +kernel⟩⟩
theorem xs_X11_209 : XSiteV RX11 209 RX10 yX10_append cX10_append 4 (some .int) 2 := ⟨xg5 191 rfl rfl, xim_X10_append, xse_X10_append, xit_X10, xcd_X10_append, ⟨rfl, by decide +kernel, by decide +kernel, by decide +kernel⟩⟩
theorem xs_X11_213 : XSiteV RX11 213 RX10 yX10_close cX10_close 2 none 1 := ⟨xg5 192 rfl rfl, xim_X10_close, xse_X10_close, xit_X10, xcd_X10_close, ⟨rfl, by decide +kernel, by decide +kernel, by decide +kernel⟩⟩
theorem xs_L_178 : XSiteW RL 178 yL_undo cL_undo 3 (some .int) [(0, 8, 11, 15)] 2 := ⟨xg5 193 rfl rfl, xst_L_undo, xit_L, xg5 195 rfl rfl, ⟨by decide +kernel, by decide +kernel, by decide +kernel⟩⟩
theorem xs_L_61 : XSiteV RL 61 RX11 yX11_undo cX11_undo 1 (some .int) 0 := ⟨xg5 196 rfl rfl, xim_X11_undo, xse_X11_undo, xit_X11, xcd_X11_undo, ⟨rfl, by decide +kernel, by decide +kernel, by decide +kernel⟩⟩
theorem xs_L_181 : XSiteW RL 181 yL_select cL_select 4 (some .int) [(0, 9, 12, 21), (0, 9, 15, 15)] 3 := ⟨xg5 200 rfl rfl, xst_L_select, xit_L, xg5 202 rfl rfl, ⟨by decide +kernel, by decide +kernel, by decide +kernel⟩⟩
theorem xs_L_64 : XSiteV RL 64 RX11 yX11_select cX11_select 3 (some .int) 1 := ⟨xg5 203 rfl rfl, xim_X11_select, xse_X11_select, xit_X11, xcd_X11_select, ⟨rfl, by decide +kernel, by decide +kernel, by decide +kernel⟩⟩
theorem xs_X11_216 : XSiteV RX11 216 RX11 yX11_loadPage cX11_loadPage 1 none 0 := ⟨xg5 207 rfl rfl, xim_X11_loadPage, xse_X11_loadPage, xit_X11, xcd_X11_loadPage, ⟨rfl, by decide +kernel, by decide +kernel, by decide +kernel⟩⟩
theorem xs_X11_322 : XSiteV RX11 322 RX7 yX7_load cX7_load 2 (some .boolean) 1 := ⟨xg5 211 rfl rfl, xim_X7_load, xse_X7_load, xit_X7, xcd_X7_load, ⟨rfl, by decide +kernel, by decide +kernel, by decide +kernel⟩⟩
theorem xs_X7_31 : XSiteV RX7 31 RX9 yX9_clear cX9_clear 1 none 0 := ⟨xg5 215 rfl rfl, xim_X9_clear, xse_X9_clear, xit_X9, xcd_X9_clear, ⟨rfl, by decide +kernel, by decide +kernel, by decide +kernel⟩⟩
theorem xs_X7_34 : XSiteV RX7 34 RX9 yX9_length cX9_length 1 (some .int) 0 := ⟨xg5 216 rfl rfl, xim_X9_length, xse_X9_length, xit_X9, xcd_X9_length, ⟨rfl, by decide +kernel, by decide +kernel, by decide +kernel⟩⟩
theorem xs_X7_38 : XSiteV RX7 38 RX9 yX9_addPart cX9_addPart 5 none 3 := ⟨xg5 217 rfl rfl, xim_X9_addPart, xse_X9_addPart, xit_X9, xcd_X9_addPart, ⟨rfl, by decide +kernel, by decide +kernel, by decide +kernel⟩⟩
theorem xs_X9_38 : XSiteV RX9 38 RX9 yX9_length cX9_length 1 (some .int) 0 := ⟨xg5 221 rfl rfl, xim_X9_length, xse_X9_length, xit_X9, xcd_X9_length, ⟨rfl, by decide +kernel, by decide +kernel, by decide +kernel⟩⟩
theorem xs_X7_42 : XSiteV RX7 42 RX7 yX7_divide cX7_divide 4 (some .boolean) 0 := ⟨xg5 222 rfl rfl, xim_X7_divide, xse_X7_divide, xit_X7, xcd_X7_divide, ⟨rfl, by decide +kernel, by decide +kernel, by decide +kernel⟩⟩
theorem xs_X7_56 : XSiteV RX7 56 RX9 yX9_at cX9_at 2 (some .int) 1 := ⟨xg5 226 rfl rfl, xim_X9_at, xse_X9_at, xit_X9, xcd_X9_at, ⟨rfl, by decide +kernel, by decide +kernel, by decide +kernel⟩⟩
theorem xs_X11_219 : XSiteV RX11 219 RX2 yX2_seek cX2_seek 6 none 2 := ⟨xg5 227 rfl rfl, xim_X2_seek, xse_X2_seek, xit_X2, xcd_X2_seek, ⟨rfl, by decide +kernel, by decide +kernel, by decide +kernel⟩⟩
theorem xs_X2_42 : XSiteV RX2 42 RX2 yX2_begin cX2_begin 2 none 0 := ⟨xg5 231 rfl rfl, xim_X2_begin, xse_X2_begin, xit_X2, xcd_X2_begin, ⟨rfl, by decide +kernel, by decide +kernel, by decide +kernel⟩⟩
theorem xs_X2_45 : XSiteV RX2 45 RX2 yX2_meet cX2_meet 2 none 1 := ⟨xg5 235 rfl rfl, xim_X2_meet, xse_X2_meet, xit_X2, xcd_X2_meet, ⟨rfl, by decide +kernel, by decide +kernel, by decide +kernel⟩⟩
theorem xs_X2_48 : XSiteV RX2 48 RX7 yX7_steps cX7_steps 1 (some .int) 0 := ⟨xg5 239 rfl rfl, xim_X7_steps, xse_X7_steps, xit_X7, xcd_X7_steps, ⟨rfl, by decide +kernel, by decide +kernel, by decide +kernel⟩⟩
theorem xs_X2_54 : XSiteV RX2 54 RX7 yX7_wordTo cX7_wordTo 5 none 2 := ⟨xg6 3 rfl rfl, xim_X7_wordTo, xse_X7_wordTo, xit_X7, xcd_X7_wordTo, ⟨rfl, by decide +kernel, by decide +kernel, by decide +kernel⟩⟩
theorem xs_X7_60 : XSiteV RX7 60 RX7 yX7_startOf cX7_startOf 2 (some .int) 1 := ⟨xg6 7 rfl rfl, xim_X7_startOf, xse_X7_startOf, xit_X7, xcd_X7_startOf, ⟨rfl, by decide +kernel, by decide +kernel, by decide +kernel⟩⟩
theorem xs_X7_63 : XSiteV RX7 63 RX9 yX9_add cX9_add 2 none 1 := ⟨xg6 11 rfl rfl, xim_X9_add, xse_X9_add, xit_X9, xcd_X9_add, ⟨rfl, by decide +kernel, by decide +kernel, by decide +kernel⟩⟩
theorem xs_X2_58 : Cond.methodLink RX2 58 Lib.Math.min.name ∈ xg ∧ Cond.static Lib.Math.min.name ∈ xg ∧ Cond.initialized "java/lang/Math" ∈ xg ∧ Cond.code Lib.Math.min.name Lib.Math.min.code 2 (some .int) ∈ xg := ⟨xg6 12 rfl rfl, xg5 22 rfl rfl, xg1 3 rfl rfl, xg5 23 rfl rfl⟩
theorem xs_X2_64 : XSiteV RX2 64 RX2 yX2_stepFrom cX2_stepFrom 5 none 2 := ⟨xg6 13 rfl rfl, xim_X2_stepFrom, xse_X2_stepFrom, xit_X2, xcd_X2_stepFrom, ⟨rfl, by decide +kernel, by decide +kernel, by decide +kernel⟩⟩
theorem xs_X2_70 : XSiteV RX2 70 RX9 yX9_says cX9_says 4 (some .boolean) 1 := ⟨xg6 18 rfl rfl, xim_X9_says, xse_X9_says, xit_X9, xcd_X9_says, ⟨rfl, by decide +kernel, by decide +kernel, by decide +kernel⟩⟩
theorem xs_X2_74 : XSiteV RX2 74 RX10 yX10_after cX10_after 2 (some .int) 1 := ⟨xg6 22 rfl rfl, xim_X10_after, xse_X10_after, xit_X10, xcd_X10_after, ⟨rfl, by decide +kernel, by decide +kernel, by decide +kernel⟩⟩
theorem xs_X2_82 : XSiteV RX2 82 RX10 yX10_first cX10_first 3 (some .int) 1 := ⟨xg6 24 rfl rfl, xim_X10_first, xse_X10_first, xit_X10, xcd_X10_first, ⟨rfl, by decide +kernel, by decide +kernel, by decide +kernel⟩⟩
theorem xs_X2_85 : XSiteV RX2 85 RX10 yX10_next cX10_next 4 (some .int) 2 := ⟨xg6 25 rfl rfl, xim_X10_next, xse_X10_next, xit_X10, xcd_X10_next, ⟨rfl, by decide +kernel, by decide +kernel, by decide +kernel⟩⟩
theorem xs_X2_88 : XSiteV RX2 88 RX9 yX9_at cX9_at 2 (some .int) 1 := ⟨xg6 26 rfl rfl, xim_X9_at, xse_X9_at, xit_X9, xcd_X9_at, ⟨rfl, by decide +kernel, by decide +kernel, by decide +kernel⟩⟩
theorem xs_X2_91 : XSiteV RX2 91 RX2 yX2_meetMatches cX2_meetMatches 7 none 2 := ⟨xg6 27 rfl rfl, xim_X2_meetMatches, xse_X2_meetMatches, xit_X2, xcd_X2_meetMatches, ⟨rfl, by decide +kernel, by decide +kernel, by decide +kernel⟩⟩
theorem xs_X2_115 : XSiteV RX2 115 RX9 yX9_placeOf cX9_placeOf 3 (some .int) 1 := ⟨xg6 31 rfl rfl, xim_X9_placeOf, xse_X9_placeOf, xit_X9, xcd_X9_placeOf, ⟨rfl, by decide +kernel, by decide +kernel, by decide +kernel⟩⟩
theorem xs_X2_118 : XSiteV RX2 118 RX9 yX9_clear cX9_clear 1 none 0 := ⟨xg6 35 rfl rfl, xim_X9_clear, xse_X9_clear, xit_X9, xcd_X9_clear, ⟨rfl, by decide +kernel, by decide +kernel, by decide +kernel⟩⟩
theorem xs_X2_121 : XSiteV RX2 121 RX9 yX9_addPart cX9_addPart 5 none 3 := ⟨xg6 36 rfl rfl, xim_X9_addPart, xse_X9_addPart, xit_X9, xcd_X9_addPart, ⟨rfl, by decide +kernel, by decide +kernel, by decide +kernel⟩⟩
theorem xs_X2_105 : XSiteV RX2 105 RX10 yX10_valueOf cX10_valueOf 5 (some .int) 2 := ⟨xg6 37 rfl rfl, xim_X10_valueOf, xse_X10_valueOf, xit_X10, xcd_X10_valueOf, ⟨rfl, by decide +kernel, by decide +kernel, by decide +kernel⟩⟩
theorem xs_X2_125 : XSiteSN RX2 125 yX8_value cX8_value 5 none 5 := ⟨⟨"Treeletter", xt6 38 rfl⟩, xst_X8_value, xit_X8, xcd_X8_value, ⟨by decide +kernel, by decide +kernel, by decide +kernel⟩⟩
theorem xs_X2_131 : XSiteV RX2 131 RX9 yX9_endsWith cX9_endsWith 5 (some .boolean) 2 := ⟨xg6 39 rfl rfl, xim_X9_endsWith, xse_X9_endsWith, xit_X9, xcd_X9_endsWith, ⟨rfl, by decide +kernel, by decide +kernel, by decide +kernel⟩⟩
theorem xs_X2_94 : XSiteV RX2 94 RX10 yX10_is cX10_is 3 (some .boolean) 2 := ⟨xg6 43 rfl rfl, xim_X10_is, xse_X10_is, xit_X10, xcd_X10_is, ⟨rfl, by decide +kernel, by decide +kernel, by decide +kernel⟩⟩
theorem xs_X2_98 : XSiteV RX2 98 RX2 yX2_placeIn cX2_placeIn 4 (some .int) 2 := ⟨xg6 44 rfl rfl, xim_X2_placeIn, xse_X2_placeIn, xit_X2, xcd_X2_placeIn, ⟨rfl, by decide +kernel, by decide +kernel, by decide +kernel⟩⟩
theorem xs_X2_109 : XSiteS RX2 109 yX7_placeIn cX7_placeIn 6 (some .int) 2 := ⟨xg6 48 rfl rfl, xst_X7_placeIn, xit_X7, xcd_X7_placeIn, ⟨by decide +kernel, by decide +kernel, by decide +kernel⟩⟩
theorem xs_X2_112 : XSiteV RX2 112 RX10 yX10_values cX10_values 4 (some .int) 1 := ⟨xg6 51 rfl rfl, xim_X10_values, xse_X10_values, xit_X10, xcd_X10_values, ⟨rfl, by decide +kernel, by decide +kernel, by decide +kernel⟩⟩
theorem xs_X2_102 : XSiteV RX2 102 RX10 yX10_valueAt cX10_valueAt 5 (some .int) 2 := ⟨xg6 52 rfl rfl, xim_X10_valueAt, xse_X10_valueAt, xit_X10, xcd_X10_valueAt, ⟨rfl, by decide +kernel, by decide +kernel, by decide +kernel⟩⟩
theorem xs_X11_223 : XSiteV RX11 223 RX2 yX2_count cX2_count 1 (some .int) 0 := ⟨xg6 56 rfl rfl, xim_X2_count, xse_X2_count, xit_X2, xcd_X2_count, ⟨rfl, by decide +kernel, by decide +kernel, by decide +kernel⟩⟩
theorem xs_L_184 : XSiteW RL 184 yL_find cL_find 4 (some .int) [(0, 9, 12, 21)] 3 := ⟨xg6 60 rfl rfl, xst_L_find, xit_L, xg6 62 rfl rfl, ⟨by decide +kernel, by decide +kernel, by decide +kernel⟩⟩
theorem xs_L_67 : XSiteV RL 67 RX11 yX11_find cX11_find 2 (some .int) 1 := ⟨xg6 63 rfl rfl, xim_X11_find, xse_X11_find, xit_X11, xcd_X11_find, ⟨rfl, by decide +kernel, by decide +kernel, by decide +kernel⟩⟩
theorem xs_X11_225 : XSiteV RX11 225 RX2 yX2_at cX2_at 2 (some .int) 1 := ⟨xg6 67 rfl rfl, xim_X2_at, xse_X2_at, xit_X2, xcd_X2_at, ⟨rfl, by decide +kernel, by decide +kernel, by decide +kernel⟩⟩
theorem xs_L_187 : XSiteW RL 187 yL_put cL_put 5 (some .int) [(0, 10, 13, 21), (0, 10, 17, 15)] 4 := ⟨xg6 71 rfl rfl, xst_L_put, xit_L, xg6 73 rfl rfl, ⟨by decide +kernel, by decide +kernel, by decide +kernel⟩⟩
theorem xs_L_70 : XSiteV RL 70 RX11 yX11_put cX11_put 5 (some .int) 2 := ⟨xg6 74 rfl rfl, xim_X11_put, xse_X11_put, xit_X11, xcd_X11_put, ⟨rfl, by decide +kernel, by decide +kernel, by decide +kernel⟩⟩
theorem xs_X11_226 : XSiteV RX11 226 RX1 yX1_begin cX1_begin 3 none 2 := ⟨xg6 78 rfl rfl, xim_X1_begin, xse_X1_begin, xit_X1, xcd_X1_begin, ⟨rfl, by decide +kernel, by decide +kernel, by decide +kernel⟩⟩
theorem xs_X1_46 : XSiteV RX1 46 RX10 yX10_copyOf cX10_copyOf 3 none 2 := ⟨xg6 82 rfl rfl, xim_X10_copyOf, xse_X10_copyOf, xit_X10, xcd_X10_copyOf, ⟨rfl, by decide +kernel, by decide +kernel, by decide +kernel⟩⟩
theorem xs_X1_54 : XSiteV RX1 54 RX10 yX10_clear cX10_clear 1 none 0 := ⟨xg6 83 rfl rfl, xim_X10_clear, xse_X10_clear, xit_X10, xcd_X10_clear, ⟨rfl, by decide +kernel, by decide +kernel, by decide +kernel⟩⟩
theorem xs_X1_57 : XSiteV RX1 57 RX10 yX10_add cX10_add 2 (some .int) 1 := ⟨xg6 84 rfl rfl, xim_X10_add, xse_X10_add, xit_X10, xcd_X10_add, ⟨rfl, by decide +kernel, by decide +kernel, by decide +kernel⟩⟩
theorem xs_X11_230 : XSiteV RX11 230 RX1 yX1_putIn cX1_putIn 4 (some .boolean) 3 := ⟨xg6 85 rfl rfl, xim_X1_putIn, xse_X1_putIn, xit_X1, xcd_X1_putIn, ⟨rfl, by decide +kernel, by decide +kernel, by decide +kernel⟩⟩
theorem xs_X1_61 : XSiteV RX1 61 RX7 yX7_steps cX7_steps 1 (some .int) 0 := ⟨xg6 89 rfl rfl, xim_X7_steps, xse_X7_steps, xit_X7, xcd_X7_steps, ⟨rfl, by decide +kernel, by decide +kernel, by decide +kernel⟩⟩
theorem xs_X1_65 : XSiteV RX1 65 RX7 yX7_leadsTo cX7_leadsTo 5 (some .int) 2 := ⟨xg6 90 rfl rfl, xim_X7_leadsTo, xse_X7_leadsTo, xit_X7, xcd_X7_leadsTo, ⟨rfl, by decide +kernel, by decide +kernel, by decide +kernel⟩⟩
theorem xs_X7_69 : XSiteV RX7 69 RX7 yX7_wordTo cX7_wordTo 5 none 2 := ⟨xg6 94 rfl rfl, xim_X7_wordTo, xse_X7_wordTo, xit_X7, xcd_X7_wordTo, ⟨rfl, by decide +kernel, by decide +kernel, by decide +kernel⟩⟩
theorem xs_X7_52 : XSiteV RX7 52 RX10 yX10_is cX10_is 3 (some .boolean) 2 := ⟨xg6 95 rfl rfl, xim_X10_is, xse_X10_is, xit_X10, xcd_X10_is, ⟨rfl, by decide +kernel, by decide +kernel, by decide +kernel⟩⟩
theorem xs_X7_72 : XSiteS RX7 72 yX7_placeIn cX7_placeIn 6 (some .int) 2 := ⟨xg6 96 rfl rfl, xst_X7_placeIn, xit_X7, xcd_X7_placeIn, ⟨by decide +kernel, by decide +kernel, by decide +kernel⟩⟩
theorem xs_X7_76 : XSiteV RX7 76 RX10 yX10_valueAt cX10_valueAt 5 (some .int) 2 := ⟨xg6 97 rfl rfl, xim_X10_valueAt, xse_X10_valueAt, xit_X10, xcd_X10_valueAt, ⟨rfl, by decide +kernel, by decide +kernel, by decide +kernel⟩⟩
theorem xs_X7_80 : XSiteV RX7 80 RX10 yX10_valueOf cX10_valueOf 5 (some .int) 2 := ⟨xg6 98 rfl rfl, xim_X10_valueOf, xse_X10_valueOf, xit_X10, xcd_X10_valueOf, ⟨rfl, by decide +kernel, by decide +kernel, by decide +kernel⟩⟩
theorem xs_X1_73 : XSiteV RX1 73 RX1 yX1_aim cX1_aim 3 (some .boolean) 1 := ⟨xg6 99 rfl rfl, xim_X1_aim, xse_X1_aim, xit_X1, xcd_X1_aim, ⟨rfl, by decide +kernel, by decide +kernel, by decide +kernel⟩⟩
theorem xs_X1_127 : XSiteV RX1 127 RX7 yX7_wordTo cX7_wordTo 5 none 2 := ⟨xg6 103 rfl rfl, xim_X7_wordTo, xse_X7_wordTo, xit_X7, xcd_X7_wordTo, ⟨rfl, by decide +kernel, by decide +kernel, by decide +kernel⟩⟩
theorem xs_X1_113 : XSiteV RX1 113 RX10 yX10_is cX10_is 3 (some .boolean) 2 := ⟨xg6 104 rfl rfl, xim_X10_is, xse_X10_is, xit_X10, xcd_X10_is, ⟨rfl, by decide +kernel, by decide +kernel, by decide +kernel⟩⟩
theorem xs_X1_130 : XSiteV RX1 130 RX10 yX10_valueOf cX10_valueOf 5 (some .int) 2 := ⟨xg6 105 rfl rfl, xim_X10_valueOf, xse_X10_valueOf, xit_X10, xcd_X10_valueOf, ⟨rfl, by decide +kernel, by decide +kernel, by decide +kernel⟩⟩
theorem xs_X1_134 : XSiteV RX1 134 RX10 yX10_after cX10_after 2 (some .int) 1 := ⟨xg6 106 rfl rfl, xim_X10_after, xse_X10_after, xit_X10, xcd_X10_after, ⟨rfl, by decide +kernel, by decide +kernel, by decide +kernel⟩⟩
theorem xs_X1_137 : XSiteV RX1 137 RX9 yX9_length cX9_length 1 (some .int) 0 := ⟨xg6 107 rfl rfl, xim_X9_length, xse_X9_length, xit_X9, xcd_X9_length, ⟨rfl, by decide +kernel, by decide +kernel, by decide +kernel⟩⟩
theorem xs_X1_140 : XSiteV RX1 140 RX10 yX10_values cX10_values 4 (some .int) 1 := ⟨xg6 108 rfl rfl, xim_X10_values, xse_X10_values, xit_X10, xcd_X10_values, ⟨rfl, by decide +kernel, by decide +kernel, by decide +kernel⟩⟩
theorem xs_X1_145 : XSiteV RX1 145 RX9 yX9_says cX9_says 4 (some .boolean) 1 := ⟨xg6 110 rfl rfl, xim_X9_says, xse_X9_says, xit_X9, xcd_X9_says, ⟨rfl, by decide +kernel, by decide +kernel, by decide +kernel⟩⟩
theorem xs_X1_149 : XSiteS RX1 149 yX7_placeIn cX7_placeIn 6 (some .int) 2 := ⟨xg6 111 rfl rfl, xst_X7_placeIn, xit_X7, xcd_X7_placeIn, ⟨by decide +kernel, by decide +kernel, by decide +kernel⟩⟩
theorem xs_X1_153 : XSiteV RX1 153 RX10 yX10_valueAt cX10_valueAt 5 (some .int) 2 := ⟨xg6 112 rfl rfl, xim_X10_valueAt, xse_X10_valueAt, xit_X10, xcd_X10_valueAt, ⟨rfl, by decide +kernel, by decide +kernel, by decide +kernel⟩⟩
theorem xs_X1_80 : XSiteV RX1 80 RX7 yX7_textTo cX7_textTo 2 none 1 := ⟨xg6 113 rfl rfl, xim_X7_textTo, xse_X7_textTo, xit_X7, xcd_X7_textTo, ⟨rfl, by decide +kernel, by decide +kernel, by decide +kernel⟩⟩
theorem xs_X1_89 : XSiteV RX1 89 RX1 yX1_record cX1_record 4 none 3 := ⟨xg6 118 rfl rfl, xim_X1_record, xse_X1_record, xit_X1, xcd_X1_record, ⟨rfl, by decide +kernel, by decide +kernel, by decide +kernel⟩⟩
theorem xs_X1_160 : XSiteS RX1 160 yX5_add cX5_add 9 none 5 := ⟨xg6 122 rfl rfl, xst_X5_add, xit_X5, xcd_X5_add, ⟨by decide +kernel, by decide +kernel, by decide +kernel⟩⟩
theorem xs_X5_51 : XSiteV RX5 51 RX10 yX10_add cX10_add 2 (some .int) 1 := ⟨xg6 125 rfl rfl, xim_X10_add, xse_X10_add, xit_X10, xcd_X10_add, ⟨rfl, by decide +kernel, by decide +kernel, by decide +kernel⟩⟩
theorem xs_X5_142 : XSiteV RX5 142 RX10 yX10_setKeyWord cX10_setKeyWord 4 none 2 := ⟨xg6 127 rfl rfl, xim_X10_setKeyWord, xse_X10_setKeyWord, xit_X10, xcd_X10_setKeyWord, ⟨rfl, by decide +kernel, by decide +kernel, by decide +kernel⟩⟩
theorem xs_X10_149 : XSiteV RX10 149 RJ0 yJ0_length_8abf5 cJ0_length_8abf5 1 (some .int) 0 := ⟨xg6 131 rfl rfl, xim_J0_length_8abf5, xse_J0_length_8abf5, xit_J0, xcd_J0_length_8abf5, ⟨rfl, by decide +kernel, by decide +kernel, by decide +kernel⟩⟩
theorem xs_X10_152 : XSiteV RX10 152 RJ0 yJ0_charAt_5068e cJ0_charAt_5068e 2 (some .char) 1 := ⟨xg6 132 rfl rfl, xim_J0_charAt_5068e, xse_J0_charAt_5068e, xit_J0, xcd_J0_charAt_5068e, ⟨rfl, by decide +kernel, by decide +kernel, by decide +kernel⟩⟩
theorem xs_X5_146 : XSiteV RX5 146 RJ0 yJ0_length_8abf5 cJ0_length_8abf5 1 (some .int) 0 := ⟨xg6 133 rfl rfl, xim_J0_length_8abf5, xse_J0_length_8abf5, xit_J0, xcd_J0_length_8abf5, ⟨rfl, by decide +kernel, by decide +kernel, by decide +kernel⟩⟩
theorem xs_X5_149 : XSiteV RX5 149 RJ0 yJ0_charAt_5068e cJ0_charAt_5068e 2 (some .char) 1 := ⟨xg6 134 rfl rfl, xim_J0_charAt_5068e, xse_J0_charAt_5068e, xit_J0, xcd_J0_charAt_5068e, ⟨rfl, by decide +kernel, by decide +kernel, by decide +kernel⟩⟩
theorem xs_X5_153 : XSiteV RX5 153 RX10 yX10_addSign cX10_addSign 4 none 2 := ⟨xg6 135 rfl rfl, xim_X10_addSign, xse_X10_addSign, xit_X10, xcd_X10_addSign, ⟨rfl, by decide +kernel, by decide +kernel, by decide +kernel⟩⟩
theorem xs_X5_82 : XSiteV RX5 82 RX9 yX9_length cX9_length 1 (some .int) 0 := ⟨xg6 137 rfl rfl, xim_X9_length, xse_X9_length, xit_X9, xcd_X9_length, ⟨rfl, by decide +kernel, by decide +kernel, by decide +kernel⟩⟩
theorem xs_X5_157 : XSiteV RX5 157 RX9 yX9_at cX9_at 2 (some .int) 1 := ⟨xg6 138 rfl rfl, xim_X9_at, xse_X9_at, xit_X9, xcd_X9_at, ⟨rfl, by decide +kernel, by decide +kernel, by decide +kernel⟩⟩
theorem xs_X5_160 : XSiteV RX5 160 RX10 yX10_append cX10_append 4 (some .int) 2 := ⟨xg6 139 rfl rfl, xim_X10_append, xse_X10_append, xit_X10, xcd_X10_append, ⟨rfl, by decide +kernel, by decide +kernel, by decide +kernel⟩⟩
theorem xs_X5_59 : XSiteV RX5 59 RX10 yX10_close cX10_close 2 none 1 := ⟨xg6 141 rfl rfl, xim_X10_close, xse_X10_close, xit_X10, xcd_X10_close, ⟨rfl, by decide +kernel, by decide +kernel, by decide +kernel⟩⟩
theorem xs_X1_106 : XSiteV RX1 106 RX10 yX10_insert cX10_insert 5 none 4 := ⟨xg6 142 rfl rfl, xim_X10_insert, xse_X10_insert, xit_X10, xcd_X10_insert, ⟨rfl, by decide +kernel, by decide +kernel, by decide +kernel⟩⟩
theorem xs_X1_93 : XSiteV RX1 93 RX1 yX1_aimedPathTo cX1_aimedPathTo 2 none 1 := ⟨xg6 146 rfl rfl, xim_X1_aimedPathTo, xse_X1_aimedPathTo, xit_X1, xcd_X1_aimedPathTo, ⟨rfl, by decide +kernel, by decide +kernel, by decide +kernel⟩⟩
theorem xs_X1_124 : XSiteV RX1 124 RX7 yX7_textWithPlace cX7_textWithPlace 3 none 2 := ⟨xg6 150 rfl rfl, xim_X7_textWithPlace, xse_X7_textWithPlace, xit_X7, xcd_X7_textWithPlace, ⟨rfl, by decide +kernel, by decide +kernel, by decide +kernel⟩⟩
theorem xs_X7_66 : XSiteV RX7 66 RX9 yX9_addNumber cX9_addNumber 3 none 1 := ⟨xg6 154 rfl rfl, xim_X9_addNumber, xse_X9_addNumber, xit_X9, xcd_X9_addNumber, ⟨rfl, by decide +kernel, by decide +kernel, by decide +kernel⟩⟩
theorem xs_X1_99 : XSiteV RX1 99 RX10 yX10_replace cX10_replace 4 none 3 := ⟨xg6 156 rfl rfl, xim_X10_replace, xse_X10_replace, xit_X10, xcd_X10_replace, ⟨rfl, by decide +kernel, by decide +kernel, by decide +kernel⟩⟩
theorem xs_X1_102 : XSiteV RX1 102 RX10 yX10_isDocument cX10_isDocument 1 (some .boolean) 0 := ⟨xg6 157 rfl rfl, xim_X10_isDocument, xse_X10_isDocument, xit_X10, xcd_X10_isDocument, ⟨rfl, by decide +kernel, by decide +kernel, by decide +kernel⟩⟩
theorem xs_X1_110 : XSiteV RX1 110 RX10 yX10_clearKey cX10_clearKey 2 none 1 := ⟨xg6 158 rfl rfl, xim_X10_clearKey, xse_X10_clearKey, xit_X10, xcd_X10_clearKey, ⟨rfl, by decide +kernel, by decide +kernel, by decide +kernel⟩⟩
theorem xs_X1_117 : XSiteV RX1 117 RX10 yX10_setKey cX10_setKey 4 none 2 := ⟨xg6 159 rfl rfl, xim_X10_setKey, xse_X10_setKey, xit_X10, xcd_X10_setKey, ⟨rfl, by decide +kernel, by decide +kernel, by decide +kernel⟩⟩
theorem xs_X11_234 : XSiteV RX11 234 RX1 yX1_result cX1_result 1 (some (.object "Treeletter$Tree")) 0 := ⟨xg6 160 rfl rfl, xim_X1_result, xse_X1_result, xit_X1, xcd_X1_result, ⟨rfl, by decide +kernel, by decide +kernel, by decide +kernel⟩⟩
theorem xs_X11_235 : XSiteV RX11 235 RX11 yX11_admitAndWipe cX11_admitAndWipe 3 (some .int) 1 := ⟨xg6 164 rfl rfl, xim_X11_admitAndWipe, xse_X11_admitAndWipe, xit_X11, xcd_X11_admitAndWipe, ⟨rfl, by decide +kernel, by decide +kernel, by decide +kernel⟩⟩
theorem xs_L_190 : XSiteW RL 190 yL_cut cL_cut 4 (some .int) [(0, 9, 12, 21), (0, 9, 15, 15)] 3 := ⟨xg6 168 rfl rfl, xst_L_cut, xit_L, xg6 170 rfl rfl, ⟨by decide +kernel, by decide +kernel, by decide +kernel⟩⟩
theorem xs_L_73 : XSiteV RL 73 RX11 yX11_cut cX11_cut 3 (some .int) 1 := ⟨xg6 171 rfl rfl, xim_X11_cut, xse_X11_cut, xit_X11, xcd_X11_cut, ⟨rfl, by decide +kernel, by decide +kernel, by decide +kernel⟩⟩
theorem xs_X11_238 : XSiteV RX11 238 RX1 yX1_cutOut cX1_cutOut 3 (some .boolean) 1 := ⟨xg6 175 rfl rfl, xim_X1_cutOut, xse_X1_cutOut, xit_X1, xcd_X1_cutOut, ⟨rfl, by decide +kernel, by decide +kernel, by decide +kernel⟩⟩
theorem xs_X1_158 : XSiteV RX1 158 RX10 yX10_remove cX10_remove 2 none 1 := ⟨xg6 180 rfl rfl, xim_X10_remove, xse_X10_remove, xit_X10, xcd_X10_remove, ⟨rfl, by decide +kernel, by decide +kernel, by decide +kernel⟩⟩
theorem xs_L_193 : XSiteW RL 193 yL_lay cL_lay 5 (some .int) [(0, 10, 13, 21), (0, 10, 17, 15)] 4 := ⟨xg6 184 rfl rfl, xst_L_lay, xit_L, xg6 186 rfl rfl, ⟨by decide +kernel, by decide +kernel, by decide +kernel⟩⟩
theorem xs_L_76 : XSiteV RL 76 RX11 yX11_lay cX11_lay 6 (some .int) 2 := ⟨xg6 187 rfl rfl, xim_X11_lay, xse_X11_lay, xit_X11, xcd_X11_lay, ⟨rfl, by decide +kernel, by decide +kernel, by decide +kernel⟩⟩
theorem xs_X11_242 : XSiteV RX11 242 RX1 yX1_layAll cX1_layAll 4 (some .int) 1 := ⟨xg6 191 rfl rfl, xim_X1_layAll, xse_X1_layAll, xit_X1, xcd_X1_layAll, ⟨rfl, by decide +kernel, by decide +kernel, by decide +kernel⟩⟩
theorem xs_X1_165 : XSiteV RX1 165 RX10 yX10_first cX10_first 3 (some .int) 1 := ⟨xg6 195 rfl rfl, xim_X10_first, xse_X10_first, xit_X10, xcd_X10_first, ⟨rfl, by decide +kernel, by decide +kernel, by decide +kernel⟩⟩
theorem xs_X1_168 : XSiteV RX1 168 RX1 yX1_layOne cX1_layOne 7 (some .boolean) 2 := ⟨xg6 196 rfl rfl, xim_X1_layOne, xse_X1_layOne, xit_X1, xcd_X1_layOne, ⟨rfl, by decide +kernel, by decide +kernel, by decide +kernel⟩⟩
theorem xs_X1_177 : XSiteV RX1 177 RX10 yX10_valueNamed cX10_valueNamed 5 (some .int) 2 := ⟨xg6 201 rfl rfl, xim_X10_valueNamed, xse_X10_valueNamed, xit_X10, xcd_X10_valueNamed, ⟨rfl, by decide +kernel, by decide +kernel, by decide +kernel⟩⟩
theorem xs_X10_172 : XSiteV RX10 172 RX10 yX10_hasKeyWord cX10_hasKeyWord 5 (some .boolean) 2 := ⟨xg6 205 rfl rfl, xim_X10_hasKeyWord, xse_X10_hasKeyWord, xit_X10, xcd_X10_hasKeyWord, ⟨rfl, by decide +kernel, by decide +kernel, by decide +kernel⟩⟩
theorem xs_X1_186 : XSiteV RX1 186 RX7 yX7_loadText cX7_loadText 3 (some .boolean) 2 := ⟨xg6 212 rfl rfl, xim_X7_loadText, xse_X7_loadText, xit_X7, xcd_X7_loadText, ⟨rfl, by decide +kernel, by decide +kernel, by decide +kernel⟩⟩
theorem xs_X7_46 : XSiteV RX7 46 RX10 yX10_signsTo cX10_signsTo 4 none 2 := ⟨xg6 216 rfl rfl, xim_X10_signsTo, xse_X10_signsTo, xit_X10, xcd_X10_signsTo, ⟨rfl, by decide +kernel, by decide +kernel, by decide +kernel⟩⟩
theorem xs_X1_189 : XSiteV RX1 189 RX10 yX10_says cX10_says 5 (some .boolean) 2 := ⟨xg6 217 rfl rfl, xim_X10_says, xse_X10_says, xit_X10, xcd_X10_says, ⟨rfl, by decide +kernel, by decide +kernel, by decide +kernel⟩⟩
theorem xs_X1_192 : XSiteV RX1 192 RX1 yX1_cutOut cX1_cutOut 3 (some .boolean) 1 := ⟨xg6 221 rfl rfl, xim_X1_cutOut, xse_X1_cutOut, xit_X1, xcd_X1_cutOut, ⟨rfl, by decide +kernel, by decide +kernel, by decide +kernel⟩⟩
theorem xs_X1_197 : XSiteV RX1 197 RX1 yX1_holdAt cX1_holdAt 4 (some .boolean) 2 := ⟨xg6 223 rfl rfl, xim_X1_holdAt, xse_X1_holdAt, xit_X1, xcd_X1_holdAt, ⟨rfl, by decide +kernel, by decide +kernel, by decide +kernel⟩⟩
theorem xs_X1_200 : XSiteV RX1 200 RX1 yX1_putIn cX1_putIn 4 (some .boolean) 3 := ⟨xg6 227 rfl rfl, xim_X1_putIn, xse_X1_putIn, xit_X1, xcd_X1_putIn, ⟨rfl, by decide +kernel, by decide +kernel, by decide +kernel⟩⟩
theorem xs_X1_206 : XSiteV RX1 206 RX1 yX1_exchange cX1_exchange 4 (some .boolean) 2 := ⟨xg6 229 rfl rfl, xim_X1_exchange, xse_X1_exchange, xit_X1, xcd_X1_exchange, ⟨rfl, by decide +kernel, by decide +kernel, by decide +kernel⟩⟩
theorem xs_X1_211 : XSiteV RX1 211 RX1 yX1_isThere cX1_isThere 4 (some .boolean) 2 := ⟨xg6 234 rfl rfl, xim_X1_isThere, xse_X1_isThere, xit_X1, xcd_X1_isThere, ⟨rfl, by decide +kernel, by decide +kernel, by decide +kernel⟩⟩
theorem xs_X1_214 : XSiteN RX1 214 RX10 yX10_same cX10_same 10 (some .boolean) 4 := ⟨⟨"Treeletter", xt6 238 rfl⟩, xim_X10_same, xse_X10_same, xit_X10, xcd_X10_same, ⟨rfl, by decide +kernel, by decide +kernel, by decide +kernel⟩⟩
theorem xs_X1_172 : XSiteV RX1 172 RX10 yX10_next cX10_next 4 (some .int) 2 := ⟨xg6 239 rfl rfl, xim_X10_next, xse_X10_next, xit_X10, xcd_X10_next, ⟨rfl, by decide +kernel, by decide +kernel, by decide +kernel⟩⟩
theorem xs_L_196 : XSiteW RL 196 yL_patch cL_patch 5 (some .int) [(0, 10, 13, 21), (0, 10, 17, 15)] 4 := ⟨xg7 0 rfl rfl, xst_L_patch, xit_L, xg7 2 rfl rfl, ⟨by decide +kernel, by decide +kernel, by decide +kernel⟩⟩
theorem xs_L_79 : XSiteV RL 79 RX11 yX11_patch cX11_patch 5 (some .int) 2 := ⟨xg7 3 rfl rfl, xim_X11_patch, xse_X11_patch, xit_X11, xcd_X11_patch, ⟨rfl, by decide +kernel, by decide +kernel, by decide +kernel⟩⟩
theorem xs_X11_245 : XSiteV RX11 245 RX5 yX5_listTo cX5_listTo 5 none 3 := ⟨xg7 7 rfl rfl, xim_X5_listTo, xse_X5_listTo, xit_X5, xcd_X5_listTo, ⟨rfl, by decide +kernel, by decide +kernel, by decide +kernel⟩⟩
theorem xs_X5_47 : XSiteV RX5 47 RX9 yX9_clear cX9_clear 1 none 0 := ⟨xg7 11 rfl rfl, xim_X9_clear, xse_X9_clear, xit_X9, xcd_X9_clear, ⟨rfl, by decide +kernel, by decide +kernel, by decide +kernel⟩⟩
theorem xs_X5_50 : XSiteV RX5 50 RX10 yX10_clear cX10_clear 1 none 0 := ⟨xg7 12 rfl rfl, xim_X10_clear, xse_X10_clear, xit_X10, xcd_X10_clear, ⟨rfl, by decide +kernel, by decide +kernel, by decide +kernel⟩⟩
theorem xs_X5_55 : XSiteV RX5 55 RX5 yX5_between cX5_between 4 none 3 := ⟨xg7 13 rfl rfl, xim_X5_between, xse_X5_between, xit_X5, xcd_X5_between, ⟨rfl, by decide +kernel, by decide +kernel, by decide +kernel⟩⟩
theorem xs_X5_62 : XSiteN RX5 62 RX10 yX10_same cX10_same 10 (some .boolean) 4 := ⟨⟨"Treeletter", xt7 17 rfl⟩, xim_X10_same, xse_X10_same, xit_X10, xcd_X10_same, ⟨rfl, by decide +kernel, by decide +kernel, by decide +kernel⟩⟩
theorem xs_X5_66 : XSiteV RX5 66 RX10 yX10_is cX10_is 3 (some .boolean) 2 := ⟨xg7 18 rfl rfl, xim_X10_is, xse_X10_is, xit_X10, xcd_X10_is, ⟨rfl, by decide +kernel, by decide +kernel, by decide +kernel⟩⟩
theorem xs_X5_70 : XSiteV RX5 70 RX5 yX5_betweenMaps cX5_betweenMaps 8 none 3 := ⟨xg7 19 rfl rfl, xim_X5_betweenMaps, xse_X5_betweenMaps, xit_X5, xcd_X5_betweenMaps, ⟨rfl, by decide +kernel, by decide +kernel, by decide +kernel⟩⟩
theorem xs_X5_86 : XSiteV RX5 86 RX10 yX10_first cX10_first 3 (some .int) 1 := ⟨xg7 23 rfl rfl, xim_X10_first, xse_X10_first, xit_X10, xcd_X10_first, ⟨rfl, by decide +kernel, by decide +kernel, by decide +kernel⟩⟩
theorem xs_X5_89 : XSiteV RX5 89 RX10 yX10_valueLike cX10_valueLike 6 (some .int) 3 := ⟨xg7 24 rfl rfl, xim_X10_valueLike, xse_X10_valueLike, xit_X10, xcd_X10_valueLike, ⟨rfl, by decide +kernel, by decide +kernel, by decide +kernel⟩⟩
theorem xs_X5_93 : XSiteV RX5 93 RX10 yX10_stepTo cX10_stepTo 5 none 2 := ⟨xg7 25 rfl rfl, xim_X10_stepTo, xse_X10_stepTo, xit_X10, xcd_X10_stepTo, ⟨rfl, by decide +kernel, by decide +kernel, by decide +kernel⟩⟩
theorem xs_X5_79 : XSiteS RX5 79 yX5_add cX5_add 9 none 5 := ⟨xg7 27 rfl rfl, xst_X5_add, xit_X5, xcd_X5_add, ⟨by decide +kernel, by decide +kernel, by decide +kernel⟩⟩
theorem xs_X5_99 : XSiteV RX5 99 RX9 yX9_shorten cX9_shorten 2 none 1 := ⟨xg7 28 rfl rfl, xim_X9_shorten, xse_X9_shorten, xit_X9, xcd_X9_shorten, ⟨rfl, by decide +kernel, by decide +kernel, by decide +kernel⟩⟩
theorem xs_X5_102 : XSiteV RX5 102 RX10 yX10_next cX10_next 4 (some .int) 2 := ⟨xg7 32 rfl rfl, xim_X10_next, xse_X10_next, xit_X10, xcd_X10_next, ⟨rfl, by decide +kernel, by decide +kernel, by decide +kernel⟩⟩
theorem xs_X5_73 : XSiteV RX5 73 RX5 yX5_betweenRows cX5_betweenRows 7 none 2 := ⟨xg7 34 rfl rfl, xim_X5_betweenRows, xse_X5_betweenRows, xit_X5, xcd_X5_betweenRows, ⟨rfl, by decide +kernel, by decide +kernel, by decide +kernel⟩⟩
theorem xs_X5_107 : XSiteS RX5 107 yX5_gather cX5_gather 5 (some .int) 3 := ⟨xg7 38 rfl rfl, xst_X5_gather, xit_X5, xcd_X5_gather, ⟨by decide +kernel, by decide +kernel, by decide +kernel⟩⟩
theorem xs_X5_111 : XSiteV RX5 111 RX5 yX5_matchAll cX5_matchAll 5 none 2 := ⟨xg7 41 rfl rfl, xim_X5_matchAll, xse_X5_matchAll, xit_X5, xcd_X5_matchAll, ⟨rfl, by decide +kernel, by decide +kernel, by decide +kernel⟩⟩
theorem xs_X5_114 : XSiteV RX5 114 RX5 yX5_countPairs cX5_countPairs 6 none 2 := ⟨xg7 45 rfl rfl, xim_X5_countPairs, xse_X5_countPairs, xit_X5, xcd_X5_countPairs, ⟨rfl, by decide +kernel, by decide +kernel, by decide +kernel⟩⟩
theorem xs_X5_129 : Cond.methodLink RX5 129 Lib.Math.min.name ∈ xg ∧ Cond.static Lib.Math.min.name ∈ xg ∧ Cond.initialized "java/lang/Math" ∈ xg ∧ Cond.code Lib.Math.min.name Lib.Math.min.code 2 (some .int) ∈ xg := ⟨xg7 49 rfl rfl, xg5 22 rfl rfl, xg1 3 rfl rfl, xg5 23 rfl rfl⟩
theorem xs_X5_134 : XSiteV RX5 134 RX5 yX5_pairsFrom cX5_pairsFrom 3 (some .int) 2 := ⟨xg7 50 rfl rfl, xim_X5_pairsFrom, xse_X5_pairsFrom, xit_X5, xcd_X5_pairsFrom, ⟨rfl, by decide +kernel, by decide +kernel, by decide +kernel⟩⟩
theorem xs_X5_137 : Cond.methodLink RX5 137 Lib.Math.max.name ∈ xg ∧ Cond.static Lib.Math.max.name ∈ xg ∧ Cond.initialized "java/lang/Math" ∈ xg ∧ Cond.code Lib.Math.max.name Lib.Math.max.code 2 (some .int) ∈ xg := ⟨xg7 54 rfl rfl, xg1 41 rfl rfl, xg1 3 rfl rfl, xg1 42 rfl rfl⟩
theorem xs_X5_117 : XSiteV RX5 117 RX5 yX5_markPairs cX5_markPairs 6 none 2 := ⟨xg7 55 rfl rfl, xim_X5_markPairs, xse_X5_markPairs, xit_X5, xcd_X5_markPairs, ⟨rfl, by decide +kernel, by decide +kernel, by decide +kernel⟩⟩
theorem xs_X5_120 : XSiteV RX5 120 RX5 yX5_addAtPlace cX5_addAtPlace 4 none 3 := ⟨xg7 59 rfl rfl, xim_X5_addAtPlace, xse_X5_addAtPlace, xit_X5, xcd_X5_addAtPlace, ⟨rfl, by decide +kernel, by decide +kernel, by decide +kernel⟩⟩
theorem xs_X5_124 : XSiteV RX5 124 RX9 yX9_add cX9_add 2 none 1 := ⟨xg7 63 rfl rfl, xim_X9_add, xse_X9_add, xit_X9, xcd_X9_add, ⟨rfl, by decide +kernel, by decide +kernel, by decide +kernel⟩⟩
theorem xs_X5_126 : XSiteV RX5 126 RX9 yX9_addNumber cX9_addNumber 3 none 1 := ⟨xg7 64 rfl rfl, xim_X9_addNumber, xse_X9_addNumber, xit_X9, xcd_X9_addNumber, ⟨rfl, by decide +kernel, by decide +kernel, by decide +kernel⟩⟩
theorem xs_L_199 : XSiteW RL 199 yL_turn cL_turn 5 (some .int) [(0, 10, 13, 21), (0, 10, 17, 15)] 4 := ⟨xg7 66 rfl rfl, xst_L_turn, xit_L, xg7 68 rfl rfl, ⟨by decide +kernel, by decide +kernel, by decide +kernel⟩⟩
theorem xs_L_82 : XSiteV RL 82 RX11 yX11_turn cX11_turn 5 (some .int) 2 := ⟨xg7 69 rfl rfl, xim_X11_turn, xse_X11_turn, xit_X11, xcd_X11_turn, ⟨rfl, by decide +kernel, by decide +kernel, by decide +kernel⟩⟩
theorem xs_X11_249 : XSiteV RX11 249 RX1 yX1_wayBack cX1_wayBack 1 (some (.object "Treeletter$Tree")) 0 := ⟨xg7 73 rfl rfl, xim_X1_wayBack, xse_X1_wayBack, xit_X1, xcd_X1_wayBack, ⟨rfl, by decide +kernel, by decide +kernel, by decide +kernel⟩⟩
theorem xs_L_202 : XSiteW RL 202 yL_join cL_join 6 (some .int) [(0, 12, 15, 21), (0, 12, 19, 15)] 5 := ⟨xg7 77 rfl rfl, xst_L_join, xit_L, xg7 79 rfl rfl, ⟨by decide +kernel, by decide +kernel, by decide +kernel⟩⟩
theorem xs_L_85 : XSiteV RL 85 RX11 yX11_join cX11_join 8 (some .int) 3 := ⟨xg7 80 rfl rfl, xim_X11_join, xse_X11_join, xit_X11, xcd_X11_join, ⟨rfl, by decide +kernel, by decide +kernel, by decide +kernel⟩⟩
theorem xs_X11_252 : XSiteV RX11 252 RX4 yX4_unite cX4_unite 4 (some .boolean) 3 := ⟨xg7 84 rfl rfl, xim_X4_unite, xse_X4_unite, xit_X4, xcd_X4_unite, ⟨rfl, by decide +kernel, by decide +kernel, by decide +kernel⟩⟩
theorem xs_X4_63 : XSiteV RX4 63 RX10 yX10_clear cX10_clear 1 none 0 := ⟨xg7 88 rfl rfl, xim_X10_clear, xse_X10_clear, xit_X10, xcd_X10_clear, ⟨rfl, by decide +kernel, by decide +kernel, by decide +kernel⟩⟩
theorem xs_X4_48 : XSiteV RX4 48 RX9 yX9_clear cX9_clear 1 none 0 := ⟨xg7 89 rfl rfl, xim_X9_clear, xse_X9_clear, xit_X9, xcd_X9_clear, ⟨rfl, by decide +kernel, by decide +kernel, by decide +kernel⟩⟩
theorem xs_X4_64 : XSiteV RX4 64 RX4 yX4_uniteAt cX4_uniteAt 5 none 4 := ⟨xg7 90 rfl rfl, xim_X4_uniteAt, xse_X4_uniteAt, xit_X4, xcd_X4_uniteAt, ⟨rfl, by decide +kernel, by decide +kernel, by decide +kernel⟩⟩
theorem xs_X4_72 : XSiteS RX4 72 yX4_alike cX4_alike 4 (some .boolean) 4 := ⟨xg7 94 rfl rfl, xst_X4_alike, xit_X4, xcd_X4_alike, ⟨by decide +kernel, by decide +kernel, by decide +kernel⟩⟩
theorem xs_X4_68 : XSiteN RX4 68 RX10 yX10_same cX10_same 10 (some .boolean) 4 := ⟨⟨"Treeletter", xt7 97 rfl⟩, xim_X10_same, xse_X10_same, xit_X10, xcd_X10_same, ⟨rfl, by decide +kernel, by decide +kernel, by decide +kernel⟩⟩
theorem xs_X4_76 : XSiteV RX4 76 RX4 yX4_accept cX4_accept 3 none 2 := ⟨xg7 98 rfl rfl, xim_X4_accept, xse_X4_accept, xit_X4, xcd_X4_accept, ⟨rfl, by decide +kernel, by decide +kernel, by decide +kernel⟩⟩
theorem xs_X4_90 : XSiteV RX4 90 RX10 yX10_append cX10_append 4 (some .int) 2 := ⟨xg7 102 rfl rfl, xim_X10_append, xse_X10_append, xit_X10, xcd_X10_append, ⟨rfl, by decide +kernel, by decide +kernel, by decide +kernel⟩⟩
theorem xs_X4_80 : XSiteV RX4 80 RX10 yX10_is cX10_is 3 (some .boolean) 2 := ⟨xg7 103 rfl rfl, xim_X10_is, xse_X10_is, xit_X10, xcd_X10_is, ⟨rfl, by decide +kernel, by decide +kernel, by decide +kernel⟩⟩
theorem xs_X4_84 : XSiteV RX4 84 RX4 yX4_uniteMaps cX4_uniteMaps 9 none 4 := ⟨xg7 104 rfl rfl, xim_X4_uniteMaps, xse_X4_uniteMaps, xit_X4, xcd_X4_uniteMaps, ⟨rfl, by decide +kernel, by decide +kernel, by decide +kernel⟩⟩
theorem xs_X4_94 : XSiteV RX4 94 RX10 yX10_add cX10_add 2 (some .int) 1 := ⟨xg7 108 rfl rfl, xim_X10_add, xse_X10_add, xit_X10, xcd_X10_add, ⟨rfl, by decide +kernel, by decide +kernel, by decide +kernel⟩⟩
theorem xs_X4_97 : XSiteV RX4 97 RX10 yX10_setKeyLike cX10_setKeyLike 5 none 3 := ⟨xg7 109 rfl rfl, xim_X10_setKeyLike, xse_X10_setKeyLike, xit_X10, xcd_X10_setKeyLike, ⟨rfl, by decide +kernel, by decide +kernel, by decide +kernel⟩⟩
theorem xs_X4_101 : XSiteV RX4 101 RX9 yX9_length cX9_length 1 (some .int) 0 := ⟨xg7 113 rfl rfl, xim_X9_length, xse_X9_length, xit_X9, xcd_X9_length, ⟨rfl, by decide +kernel, by decide +kernel, by decide +kernel⟩⟩
theorem xs_X4_105 : XSiteV RX4 105 RX10 yX10_first cX10_first 3 (some .int) 1 := ⟨xg7 114 rfl rfl, xim_X10_first, xse_X10_first, xit_X10, xcd_X10_first, ⟨rfl, by decide +kernel, by decide +kernel, by decide +kernel⟩⟩
theorem xs_X4_108 : XSiteV RX4 108 RX10 yX10_stepTo cX10_stepTo 5 none 2 := ⟨xg7 115 rfl rfl, xim_X10_stepTo, xse_X10_stepTo, xit_X10, xcd_X10_stepTo, ⟨rfl, by decide +kernel, by decide +kernel, by decide +kernel⟩⟩
theorem xs_X4_112 : XSiteV RX4 112 RX10 yX10_valueLike cX10_valueLike 6 (some .int) 3 := ⟨xg7 116 rfl rfl, xim_X10_valueLike, xse_X10_valueLike, xit_X10, xcd_X10_valueLike, ⟨rfl, by decide +kernel, by decide +kernel, by decide +kernel⟩⟩
theorem xs_X4_116 : XSiteV RX4 116 RX9 yX9_shorten cX9_shorten 2 none 1 := ⟨xg7 117 rfl rfl, xim_X9_shorten, xse_X9_shorten, xit_X9, xcd_X9_shorten, ⟨rfl, by decide +kernel, by decide +kernel, by decide +kernel⟩⟩
theorem xs_X4_119 : XSiteV RX4 119 RX10 yX10_next cX10_next 4 (some .int) 2 := ⟨xg7 118 rfl rfl, xim_X10_next, xse_X10_next, xit_X10, xcd_X10_next, ⟨rfl, by decide +kernel, by decide +kernel, by decide +kernel⟩⟩
theorem xs_X4_123 : XSiteV RX4 123 RX10 yX10_close cX10_close 2 none 1 := ⟨xg7 119 rfl rfl, xim_X10_close, xse_X10_close, xit_X10, xcd_X10_close, ⟨rfl, by decide +kernel, by decide +kernel, by decide +kernel⟩⟩
theorem xs_X4_87 : XSiteV RX4 87 RX4 yX4_dispute cX4_dispute 1 none 0 := ⟨xg7 120 rfl rfl, xim_X4_dispute, xse_X4_dispute, xit_X4, xcd_X4_dispute, ⟨rfl, by decide +kernel, by decide +kernel, by decide +kernel⟩⟩
theorem xs_X4_126 : XSiteV RX4 126 RX4 yX4_forget cX4_forget 1 none 0 := ⟨xg7 124 rfl rfl, xim_X4_forget, xse_X4_forget, xit_X4, xcd_X4_forget, ⟨rfl, by decide +kernel, by decide +kernel, by decide +kernel⟩⟩
theorem xs_X4_55 : XSiteV RX4 55 RX9 yX9_addPart cX9_addPart 5 none 3 := ⟨xg7 128 rfl rfl, xim_X9_addPart, xse_X9_addPart, xit_X9, xcd_X9_addPart, ⟨rfl, by decide +kernel, by decide +kernel, by decide +kernel⟩⟩
theorem xs_X11_256 : XSiteV RX11 256 RX4 yX4_result cX4_result 1 (some (.object "Treeletter$Tree")) 0 := ⟨xg7 129 rfl rfl, xim_X4_result, xse_X4_result, xit_X4, xcd_X4_result, ⟨rfl, by decide +kernel, by decide +kernel, by decide +kernel⟩⟩
theorem xs_X11_257 : XSiteV RX11 257 RX4 yX4_forget cX4_forget 1 none 0 := ⟨xg7 133 rfl rfl, xim_X4_forget, xse_X4_forget, xit_X4, xcd_X4_forget, ⟨rfl, by decide +kernel, by decide +kernel, by decide +kernel⟩⟩
theorem xs_L_209 : XSiteW RL 209 yL_quarrel cL_quarrel 4 (some .int) [(0, 9, 12, 21)] 3 := ⟨xg7 134 rfl rfl, xst_L_quarrel, xit_L, xg7 136 rfl rfl, ⟨by decide +kernel, by decide +kernel, by decide +kernel⟩⟩
theorem xs_L_88 : XSiteV RL 88 RX11 yX11_quarrel cX11_quarrel 2 (some .int) 1 := ⟨xg7 137 rfl rfl, xim_X11_quarrel, xse_X11_quarrel, xit_X11, xcd_X11_quarrel, ⟨rfl, by decide +kernel, by decide +kernel, by decide +kernel⟩⟩
theorem xs_X11_261 : XSiteV RX11 261 RX4 yX4_pathTo cX4_pathTo 3 none 2 := ⟨xg7 141 rfl rfl, xim_X4_pathTo, xse_X4_pathTo, xit_X4, xcd_X4_pathTo, ⟨rfl, by decide +kernel, by decide +kernel, by decide +kernel⟩⟩
theorem xs_X4_51 : XSiteV RX4 51 RX4 yX4_endOf cX4_endOf 2 (some .int) 1 := ⟨xg7 145 rfl rfl, xim_X4_endOf, xse_X4_endOf, xit_X4, xcd_X4_endOf, ⟨rfl, by decide +kernel, by decide +kernel, by decide +kernel⟩⟩
theorem xs_L_212 : XSiteW RL 212 yL_standard cL_standard 3 (some .int) [(0, 8, 11, 15)] 2 := ⟨xg7 149 rfl rfl, xst_L_standard, xit_L, xg7 151 rfl rfl, ⟨by decide +kernel, by decide +kernel, by decide +kernel⟩⟩
theorem xs_L_91 : XSiteV RL 91 RX11 yX11_standard cX11_standard 1 (some .int) 0 := ⟨xg7 152 rfl rfl, xim_X11_standard, xse_X11_standard, xit_X11, xcd_X11_standard, ⟨rfl, by decide +kernel, by decide +kernel, by decide +kernel⟩⟩
theorem xs_L_215 : XSiteW RL 215 yL_check cL_check 5 (some .int) [(0, 10, 13, 21), (0, 10, 17, 15)] 4 := ⟨xg7 156 rfl rfl, xst_L_check, xit_L, xg7 158 rfl rfl, ⟨by decide +kernel, by decide +kernel, by decide +kernel⟩⟩
theorem xs_L_94 : XSiteV RL 94 RX11 yX11_check cX11_check 5 (some .int) 2 := ⟨xg7 159 rfl rfl, xim_X11_check, xse_X11_check, xit_X11, xcd_X11_check, ⟨rfl, by decide +kernel, by decide +kernel, by decide +kernel⟩⟩
theorem xs_X11_262 : XSiteV RX11 262 RX0 yX0_agrees cX0_agrees 3 (some .boolean) 2 := ⟨xg7 163 rfl rfl, xim_X0_agrees, xse_X0_agrees, xit_X0, xcd_X0_agrees, ⟨rfl, by decide +kernel, by decide +kernel, by decide +kernel⟩⟩
theorem xs_X0_60 : XSiteV RX0 60 RX0 yX0_begin cX0_begin 4 none 3 := ⟨xg7 168 rfl rfl, xim_X0_begin, xse_X0_begin, xit_X0, xcd_X0_begin, ⟨rfl, by decide +kernel, by decide +kernel, by decide +kernel⟩⟩
theorem xs_X0_64 : XSiteV RX0 64 RX0 yX0_ask cX0_ask 14 (some .boolean) 4 := ⟨xg7 172 rfl rfl, xim_X0_ask, xse_X0_ask, xit_X0, xcd_X0_ask, ⟨rfl, by decide +kernel, by decide +kernel, by decide +kernel⟩⟩
theorem xs_X0_126 : XSiteV RX0 126 RX10 yX10_is cX10_is 3 (some .boolean) 2 := ⟨xg7 176 rfl rfl, xim_X10_is, xse_X10_is, xit_X10, xcd_X10_is, ⟨rfl, by decide +kernel, by decide +kernel, by decide +kernel⟩⟩
theorem xs_X0_130 : XSiteV RX0 130 RX10 yX10_isTrue cX10_isTrue 2 (some .boolean) 1 := ⟨xg7 177 rfl rfl, xim_X10_isTrue, xse_X10_isTrue, xit_X10, xcd_X10_isTrue, ⟨rfl, by decide +kernel, by decide +kernel, by decide +kernel⟩⟩
theorem xs_X0_134 : XSiteV RX0 134 RX0 yX0_complain cX0_complain 4 none 3 := ⟨xg7 178 rfl rfl, xim_X0_complain, xse_X0_complain, xit_X0, xcd_X0_complain, ⟨rfl, by decide +kernel, by decide +kernel, by decide +kernel⟩⟩
theorem xs_X0_138 : XSiteS RX0 138 yX0_wordOf cX0_wordOf 1 (some (.object "java/lang/String")) 1 := ⟨xg7 182 rfl rfl, xst_X0_wordOf, xit_X0, xcd_X0_wordOf, ⟨by decide +kernel, by decide +kernel, by decide +kernel⟩⟩
theorem xs_X0_142 : XSiteV RX0 142 RX10 yX10_valueNamed cX10_valueNamed 5 (some .int) 2 := ⟨xg7 200 rfl rfl, xim_X10_valueNamed, xse_X10_valueNamed, xit_X10, xcd_X10_valueNamed, ⟨rfl, by decide +kernel, by decide +kernel, by decide +kernel⟩⟩
theorem xs_X0_146 : XSiteV RX0 146 RX0 yX0_plainly cX0_plainly 6 (some .boolean) 4 := ⟨xg7 201 rfl rfl, xim_X0_plainly, xse_X0_plainly, xit_X0, xcd_X0_plainly, ⟨rfl, by decide +kernel, by decide +kernel, by decide +kernel⟩⟩
theorem xs_X0_206 : XSiteV RX0 206 RX0 yX0_hasAll cX0_hasAll 7 (some .boolean) 3 := ⟨xg7 205 rfl rfl, xim_X0_hasAll, xse_X0_hasAll, xit_X0, xcd_X0_hasAll, ⟨rfl, by decide +kernel, by decide +kernel, by decide +kernel⟩⟩
theorem xs_X0_179 : XSiteV RX0 179 RX10 yX10_first cX10_first 3 (some .int) 1 := ⟨xg7 209 rfl rfl, xim_X10_first, xse_X10_first, xit_X10, xcd_X10_first, ⟨rfl, by decide +kernel, by decide +kernel, by decide +kernel⟩⟩
theorem xs_X0_193 : XSiteV RX0 193 RX9 yX9_clear cX9_clear 1 none 0 := ⟨xg7 210 rfl rfl, xim_X9_clear, xse_X9_clear, xit_X9, xcd_X9_clear, ⟨rfl, by decide +kernel, by decide +kernel, by decide +kernel⟩⟩
theorem xs_X0_196 : XSiteV RX0 196 RX10 yX10_signsTo cX10_signsTo 4 none 2 := ⟨xg7 211 rfl rfl, xim_X10_signsTo, xse_X10_signsTo, xit_X10, xcd_X10_signsTo, ⟨rfl, by decide +kernel, by decide +kernel, by decide +kernel⟩⟩
theorem xs_X0_202 : XSiteV RX0 202 RX10 yX10_valueOf cX10_valueOf 5 (some .int) 2 := ⟨xg7 212 rfl rfl, xim_X10_valueOf, xse_X10_valueOf, xit_X10, xcd_X10_valueOf, ⟨rfl, by decide +kernel, by decide +kernel, by decide +kernel⟩⟩
theorem xs_X0_186 : XSiteV RX0 186 RX10 yX10_next cX10_next 4 (some .int) 2 := ⟨xg7 213 rfl rfl, xim_X10_next, xse_X10_next, xit_X10, xcd_X10_next, ⟨rfl, by decide +kernel, by decide +kernel, by decide +kernel⟩⟩
theorem xs_X0_210 : XSiteV RX0 210 RX0 yX0_isOfKinds cX0_isOfKinds 6 (some .boolean) 2 := ⟨xg7 214 rfl rfl, xim_X0_isOfKinds, xse_X0_isOfKinds, xit_X0, xcd_X0_isOfKinds, ⟨rfl, by decide +kernel, by decide +kernel, by decide +kernel⟩⟩
theorem xs_X0_225 : XSiteV RX0 225 RX0 yX0_isOfKind cX0_isOfKind 3 (some .boolean) 2 := ⟨xg7 218 rfl rfl, xim_X0_isOfKind, xse_X0_isOfKind, xit_X0, xcd_X0_isOfKind, ⟨rfl, by decide +kernel, by decide +kernel, by decide +kernel⟩⟩
theorem xs_X0_230 : XSiteV RX0 230 RX10 yX10_says cX10_says 5 (some .boolean) 2 := ⟨xg7 223 rfl rfl, xim_X10_says, xse_X10_says, xit_X10, xcd_X10_says, ⟨rfl, by decide +kernel, by decide +kernel, by decide +kernel⟩⟩
theorem xs_X0_234 : XSiteV RX0 234 RX10 yX10_power cX10_power 2 (some .int) 1 := ⟨xg7 224 rfl rfl, xim_X10_power, xse_X10_power, xit_X10, xcd_X10_power, ⟨rfl, by decide +kernel, by decide +kernel, by decide +kernel⟩⟩
theorem xs_X0_237 : XSiteV RX0 237 RX10 yX10_kind cX10_kind 2 (some .int) 1 := ⟨xg7 225 rfl rfl, xim_X10_kind, xse_X10_kind, xit_X10, xcd_X10_kind, ⟨rfl, by decide +kernel, by decide +kernel, by decide +kernel⟩⟩
theorem xs_X0_239 : XSiteS RX0 239 yX0_kindOf cX0_kindOf 1 (some (.object "java/lang/String")) 1 := ⟨xg7 226 rfl rfl, xst_X0_kindOf, xit_X0, xcd_X0_kindOf, ⟨by decide +kernel, by decide +kernel, by decide +kernel⟩⟩
theorem xs_X0_213 : XSiteV RX0 213 RX10 yX10_orderOfNumbers cX10_orderOfNumbers 7 (some .int) 3 := ⟨xg7 235 rfl rfl, xim_X10_orderOfNumbers, xse_X10_orderOfNumbers, xit_X10, xcd_X10_orderOfNumbers, ⟨rfl, by decide +kernel, by decide +kernel, by decide +kernel⟩⟩
theorem xs_X0_216 : XSiteV RX0 216 RX10 yX10_length cX10_length 2 (some .int) 1 := ⟨xg7 236 rfl rfl, xim_X10_length, xse_X10_length, xit_X10, xcd_X10_length, ⟨rfl, by decide +kernel, by decide +kernel, by decide +kernel⟩⟩
theorem xs_X0_219 : XSiteV RX0 219 RX0 yX0_orderOfLength cX0_orderOfLength 3 (some .int) 2 := ⟨xg7 237 rfl rfl, xim_X0_orderOfLength, xse_X0_orderOfLength, xit_X0, xcd_X0_orderOfLength, ⟨rfl, by decide +kernel, by decide +kernel, by decide +kernel⟩⟩
theorem xs_X0_242 : XSiteV RX0 242 RX9 yX9_addNumber cX9_addNumber 3 none 1 := ⟨xg8 1 rfl rfl, xim_X9_addNumber, xse_X9_addNumber, xit_X9, xcd_X9_addNumber, ⟨rfl, by decide +kernel, by decide +kernel, by decide +kernel⟩⟩
theorem xs_X0_245 : XSiteV RX0 245 RX10 yX10_clear cX10_clear 1 none 0 := ⟨xg8 2 rfl rfl, xim_X10_clear, xse_X10_clear, xit_X10, xcd_X10_clear, ⟨rfl, by decide +kernel, by decide +kernel, by decide +kernel⟩⟩
theorem xs_X0_246 : XSiteV RX0 246 RX10 yX10_add cX10_add 2 (some .int) 1 := ⟨xg8 3 rfl rfl, xim_X10_add, xse_X10_add, xit_X10, xcd_X10_add, ⟨rfl, by decide +kernel, by decide +kernel, by decide +kernel⟩⟩
theorem xs_X0_249 : XSiteV RX0 249 RX10 yX10_setNumber cX10_setNumber 8 (some .boolean) 4 := ⟨xg8 4 rfl rfl, xim_X10_setNumber, xse_X10_setNumber, xit_X10, xcd_X10_setNumber, ⟨rfl, by decide +kernel, by decide +kernel, by decide +kernel⟩⟩
theorem xs_X0_222 : XSiteV RX0 222 RX0 yX0_isOneOf cX0_isOneOf 6 (some .boolean) 2 := ⟨xg8 5 rfl rfl, xim_X0_isOneOf, xse_X0_isOneOf, xit_X0, xcd_X0_isOneOf, ⟨rfl, by decide +kernel, by decide +kernel, by decide +kernel⟩⟩
theorem xs_X0_253 : XSiteN RX0 253 RX10 yX10_same cX10_same 10 (some .boolean) 4 := ⟨⟨"Treeletter", xt8 9 rfl⟩, xim_X10_same, xse_X10_same, xit_X10, xcd_X10_same, ⟨rfl, by decide +kernel, by decide +kernel, by decide +kernel⟩⟩
theorem xs_X0_150 : XSiteV RX0 150 RX0 yX0_firstQuestion cX0_firstQuestion 4 (some .int) 3 := ⟨xg8 10 rfl rfl, xim_X0_firstQuestion, xse_X0_firstQuestion, xit_X0, xcd_X0_firstQuestion, ⟨rfl, by decide +kernel, by decide +kernel, by decide +kernel⟩⟩
theorem xs_X0_175 : XSiteV RX0 175 RX10 yX10_firstOfMap cX10_firstOfMap 3 (some .int) 1 := ⟨xg8 14 rfl rfl, xim_X10_firstOfMap, xse_X10_firstOfMap, xit_X10, xcd_X10_firstOfMap, ⟨rfl, by decide +kernel, by decide +kernel, by decide +kernel⟩⟩
theorem xs_X0_182 : XSiteV RX0 182 RX0 yX0_target cX0_target 5 (some .int) 2 := ⟨xg8 15 rfl rfl, xim_X0_target, xse_X0_target, xit_X0, xcd_X0_target, ⟨rfl, by decide +kernel, by decide +kernel, by decide +kernel⟩⟩
theorem xs_X0_154 : XSiteV RX0 154 RX0 yX0_schemaOf cX0_schemaOf 5 (some .int) 4 := ⟨xg8 20 rfl rfl, xim_X0_schemaOf, xse_X0_schemaOf, xit_X0, xcd_X0_schemaOf, ⟨rfl, by decide +kernel, by decide +kernel, by decide +kernel⟩⟩
theorem xs_X0_189 : XSiteV RX0 189 RX10 yX10_valueLike cX10_valueLike 6 (some .int) 3 := ⟨xg8 24 rfl rfl, xim_X10_valueLike, xse_X10_valueLike, xit_X10, xcd_X10_valueLike, ⟨rfl, by decide +kernel, by decide +kernel, by decide +kernel⟩⟩
theorem xs_X0_158 : XSiteV RX0 158 RX0 yX0_openRef cX0_openRef 4 none 3 := ⟨xg8 25 rfl rfl, xim_X0_openRef, xse_X0_openRef, xit_X0, xcd_X0_openRef, ⟨rfl, by decide +kernel, by decide +kernel, by decide +kernel⟩⟩
theorem xs_X0_162 : XSiteV RX0 162 RX0 yX0_closeRef cX0_closeRef 2 none 1 := ⟨xg8 29 rfl rfl, xim_X0_closeRef, xse_X0_closeRef, xit_X0, xcd_X0_closeRef, ⟨rfl, by decide +kernel, by decide +kernel, by decide +kernel⟩⟩
theorem xs_X0_165 : XSiteV RX0 165 RX0 yX0_nextQuestion cX0_nextQuestion 5 (some .int) 4 := ⟨xg8 33 rfl rfl, xim_X0_nextQuestion, xse_X0_nextQuestion, xit_X0, xcd_X0_nextQuestion, ⟨rfl, by decide +kernel, by decide +kernel, by decide +kernel⟩⟩
theorem xs_X0_168 : XSiteS RX0 168 yX0_holds cX0_holds 4 (some .boolean) 4 := ⟨xg8 37 rfl rfl, xst_X0_holds, xit_X0, xcd_X0_holds, ⟨by decide +kernel, by decide +kernel, by decide +kernel⟩⟩
theorem xs_X0_172 : XSiteS RX0 172 yX0_holdsItself cX0_holdsItself 4 (some .boolean) 4 := ⟨xg8 40 rfl rfl, xst_X0_holdsItself, xit_X0, xcd_X0_holdsItself, ⟨by decide +kernel, by decide +kernel, by decide +kernel⟩⟩
theorem xs_X11_266 : XSiteV RX11 266 RX0 yX0_examine cX0_examine 4 (some .boolean) 2 := ⟨xg8 43 rfl rfl, xim_X0_examine, xse_X0_examine, xit_X0, xcd_X0_examine, ⟨rfl, by decide +kernel, by decide +kernel, by decide +kernel⟩⟩
theorem xs_X11_269 : XSiteV RX11 269 RX0 yX0_count cX0_count 1 (some .int) 0 := ⟨xg8 47 rfl rfl, xim_X0_count, xse_X0_count, xit_X0, xcd_X0_count, ⟨rfl, by decide +kernel, by decide +kernel, by decide +kernel⟩⟩
theorem xs_L_218 : XSiteW RL 218 yL_complaint cL_complaint 5 (some .int) [(0, 10, 13, 21), (0, 10, 17, 13)] 4 := ⟨xg8 51 rfl rfl, xst_L_complaint, xit_L, xg8 53 rfl rfl, ⟨by decide +kernel, by decide +kernel, by decide +kernel⟩⟩
theorem xs_L_97 : XSiteV RL 97 RX11 yX11_complaint cX11_complaint 3 (some .int) 2 := ⟨xg8 54 rfl rfl, xim_X11_complaint, xse_X11_complaint, xit_X11, xcd_X11_complaint, ⟨rfl, by decide +kernel, by decide +kernel, by decide +kernel⟩⟩
theorem xs_X11_270 : XSiteV RX11 270 RX0 yX0_nodeAt cX0_nodeAt 2 (some .int) 1 := ⟨xg8 58 rfl rfl, xim_X0_nodeAt, xse_X0_nodeAt, xit_X0, xcd_X0_nodeAt, ⟨rfl, by decide +kernel, by decide +kernel, by decide +kernel⟩⟩
theorem xs_X11_273 : XSiteV RX11 273 RX0 yX0_wordAt cX0_wordAt 2 (some .int) 1 := ⟨xg8 62 rfl rfl, xim_X0_wordAt, xse_X0_wordAt, xit_X0, xcd_X0_wordAt, ⟨rfl, by decide +kernel, by decide +kernel, by decide +kernel⟩⟩
theorem xs_L_221 : XSiteW RL 221 yL_columns cL_columns 4 (some .int) [(0, 9, 12, 21), (0, 9, 15, 15)] 3 := ⟨xg8 66 rfl rfl, xst_L_columns, xit_L, xg8 68 rfl rfl, ⟨by decide +kernel, by decide +kernel, by decide +kernel⟩⟩
theorem xs_L_100 : XSiteV RL 100 RX11 yX11_columns cX11_columns 3 (some .int) 1 := ⟨xg8 69 rfl rfl, xim_X11_columns, xse_X11_columns, xit_X11, xcd_X11_columns, ⟨rfl, by decide +kernel, by decide +kernel, by decide +kernel⟩⟩
theorem xs_X11_276 : XSiteV RX11 276 RX10 yX10_hasOnly cX10_hasOnly 6 (some .boolean) 2 := ⟨xg8 73 rfl rfl, xim_X10_hasOnly, xse_X10_hasOnly, xit_X10, xcd_X10_hasOnly, ⟨rfl, by decide +kernel, by decide +kernel, by decide +kernel⟩⟩
theorem xs_X11_279 : XSiteS RX11 279 yX11_byColumns cX11_byColumns 7 none 2 := ⟨xg8 77 rfl rfl, xst_X11_byColumns, xit_X11, xcd_X11_byColumns, ⟨by decide +kernel, by decide +kernel, by decide +kernel⟩⟩
theorem xs_X11_326 : XSiteV RX11 326 RX10 yX10_first cX10_first 3 (some .int) 1 := ⟨xg8 80 rfl rfl, xim_X10_first, xse_X10_first, xit_X10, xcd_X10_first, ⟨rfl, by decide +kernel, by decide +kernel, by decide +kernel⟩⟩
theorem xs_X11_329 : XSiteV RX11 329 RX10 yX10_valueLike cX10_valueLike 6 (some .int) 3 := ⟨xg8 81 rfl rfl, xim_X10_valueLike, xse_X10_valueLike, xit_X10, xcd_X10_valueLike, ⟨rfl, by decide +kernel, by decide +kernel, by decide +kernel⟩⟩
theorem xs_X11_332 : XSiteS RX11 332 yX11_addColumn cX11_addColumn 7 none 3 := ⟨xg8 82 rfl rfl, xst_X11_addColumn, xit_X11, xcd_X11_addColumn, ⟨by decide +kernel, by decide +kernel, by decide +kernel⟩⟩
theorem xs_X11_339 : XSiteV RX11 339 RX10 yX10_setKeyLike cX10_setKeyLike 5 none 3 := ⟨xg8 85 rfl rfl, xim_X10_setKeyLike, xse_X10_setKeyLike, xit_X10, xcd_X10_setKeyLike, ⟨rfl, by decide +kernel, by decide +kernel, by decide +kernel⟩⟩
theorem xs_X11_342 : XSiteV RX11 342 RX10 yX10_clearKey cX10_clearKey 2 none 1 := ⟨xg8 86 rfl rfl, xim_X10_clearKey, xse_X10_clearKey, xit_X10, xcd_X10_clearKey, ⟨rfl, by decide +kernel, by decide +kernel, by decide +kernel⟩⟩
theorem xs_X11_336 : XSiteV RX11 336 RX10 yX10_next cX10_next 4 (some .int) 2 := ⟨xg8 87 rfl rfl, xim_X10_next, xse_X10_next, xit_X10, xcd_X10_next, ⟨rfl, by decide +kernel, by decide +kernel, by decide +kernel⟩⟩
theorem xs_L_224 : XSiteW RL 224 yL_rows cL_rows 4 (some .int) [(0, 9, 12, 21), (0, 9, 15, 15)] 3 := ⟨xg8 88 rfl rfl, xst_L_rows, xit_L, xg8 90 rfl rfl, ⟨by decide +kernel, by decide +kernel, by decide +kernel⟩⟩
theorem xs_L_103 : XSiteV RL 103 RX11 yX11_rows cX11_rows 3 (some .int) 1 := ⟨xg8 91 rfl rfl, xim_X11_rows, xse_X11_rows, xit_X11, xcd_X11_rows, ⟨rfl, by decide +kernel, by decide +kernel, by decide +kernel⟩⟩
theorem xs_X11_283 : XSiteS RX11 283 yX11_isByColumns cX11_isByColumns 5 (some .boolean) 1 := ⟨xg8 95 rfl rfl, xst_X11_isByColumns, xit_X11, xcd_X11_isByColumns, ⟨by decide +kernel, by decide +kernel, by decide +kernel⟩⟩
theorem xs_X11_345 : XSiteV RX11 345 RX10 yX10_firstOfMap cX10_firstOfMap 3 (some .int) 1 := ⟨xg8 98 rfl rfl, xim_X10_firstOfMap, xse_X10_firstOfMap, xit_X10, xcd_X10_firstOfMap, ⟨rfl, by decide +kernel, by decide +kernel, by decide +kernel⟩⟩
theorem xs_X11_348 : XSiteV RX11 348 RX10 yX10_values cX10_values 4 (some .int) 1 := ⟨xg8 99 rfl rfl, xim_X10_values, xse_X10_values, xit_X10, xcd_X10_values, ⟨rfl, by decide +kernel, by decide +kernel, by decide +kernel⟩⟩
theorem xs_X11_287 : XSiteS RX11 287 yX11_byRows cX11_byRows 9 none 2 := ⟨xg8 100 rfl rfl, xst_X11_byRows, xit_X11, xcd_X11_byRows, ⟨by decide +kernel, by decide +kernel, by decide +kernel⟩⟩
theorem xs_X11_351 : XSiteV RX11 351 RX10 yX10_valueAt cX10_valueAt 5 (some .int) 2 := ⟨xg8 103 rfl rfl, xim_X10_valueAt, xse_X10_valueAt, xit_X10, xcd_X10_valueAt, ⟨rfl, by decide +kernel, by decide +kernel, by decide +kernel⟩⟩
theorem xs_L_227 : XSiteW RL 227 yL_grow cL_grow 5 (some .int) [(0, 10, 13, 13), (0, 10, 17, 15)] 4 := ⟨xg8 104 rfl rfl, xst_L_grow, xit_L, xg8 106 rfl rfl, ⟨by decide +kernel, by decide +kernel, by decide +kernel⟩⟩
theorem xs_L_106 : XSiteV RL 106 RX11 yX11_grow cX11_grow 3 (some .int) 2 := ⟨xg8 107 rfl rfl, xim_X11_grow, xse_X11_grow, xit_X11, xcd_X11_grow, ⟨rfl, by decide +kernel, by decide +kernel, by decide +kernel⟩⟩
theorem xs_X11_291 : XSiteV RX11 291 RX3 yX3_begin cX3_begin 2 none 1 := ⟨xg8 112 rfl rfl, xim_X3_begin, xse_X3_begin, xit_X3, xcd_X3_begin, ⟨rfl, by decide +kernel, by decide +kernel, by decide +kernel⟩⟩
theorem xs_X3_37 : XSiteV RX3 37 RX10 yX10_clear cX10_clear 1 none 0 := ⟨xg8 116 rfl rfl, xim_X10_clear, xse_X10_clear, xit_X10, xcd_X10_clear, ⟨rfl, by decide +kernel, by decide +kernel, by decide +kernel⟩⟩
theorem xs_X11_293 : XSiteN RX11 293 RX3 yX3_sprout cX3_sprout 4 (some .int) 2 := ⟨⟨"Treeletter", xt8 117 rfl⟩, xim_X3_sprout, xse_X3_sprout, xit_X3, xcd_X3_sprout, ⟨rfl, by decide +kernel, by decide +kernel, by decide +kernel⟩⟩
theorem xs_X3_41 : XSiteV RX3 41 RX3 yX3_draw cX3_draw 2 (some .int) 1 := ⟨xg8 121 rfl rfl, xim_X3_draw, xse_X3_draw, xit_X3, xcd_X3_draw, ⟨rfl, by decide +kernel, by decide +kernel, by decide +kernel⟩⟩
theorem xs_X3_45 : XSiteV RX3 45 RX10 yX10_add cX10_add 2 (some .int) 1 := ⟨xg8 126 rfl rfl, xim_X10_add, xse_X10_add, xit_X10, xcd_X10_add, ⟨rfl, by decide +kernel, by decide +kernel, by decide +kernel⟩⟩
theorem xs_X3_48 : XSiteV RX3 48 RX10 yX10_addTruth cX10_addTruth 3 (some .int) 1 := ⟨xg8 127 rfl rfl, xim_X10_addTruth, xse_X10_addTruth, xit_X10, xcd_X10_addTruth, ⟨rfl, by decide +kernel, by decide +kernel, by decide +kernel⟩⟩
theorem xs_X3_52 : XSiteV RX3 52 RX3 yX3_number cX3_number 2 (some .int) 0 := ⟨xg8 128 rfl rfl, xim_X3_number, xse_X3_number, xit_X3, xcd_X3_number, ⟨rfl, by decide +kernel, by decide +kernel, by decide +kernel⟩⟩
theorem xs_X3_63 : XSiteV RX3 63 RX9 yX9_clear cX9_clear 1 none 0 := ⟨xg8 132 rfl rfl, xim_X9_clear, xse_X9_clear, xit_X9, xcd_X9_clear, ⟨rfl, by decide +kernel, by decide +kernel, by decide +kernel⟩⟩
theorem xs_X3_64 : XSiteV RX3 64 RX9 yX9_addNumber cX9_addNumber 3 none 1 := ⟨xg8 133 rfl rfl, xim_X9_addNumber, xse_X9_addNumber, xit_X9, xcd_X9_addNumber, ⟨rfl, by decide +kernel, by decide +kernel, by decide +kernel⟩⟩
theorem xs_X3_67 : XSiteV RX3 67 RX10 yX10_setNumber cX10_setNumber 8 (some .boolean) 4 := ⟨xg8 134 rfl rfl, xim_X10_setNumber, xse_X10_setNumber, xit_X10, xcd_X10_setNumber, ⟨rfl, by decide +kernel, by decide +kernel, by decide +kernel⟩⟩
theorem xs_X3_56 : XSiteV RX3 56 RX3 yX3_text cX3_text 4 (some .int) 0 := ⟨xg8 135 rfl rfl, xim_X3_text, xse_X3_text, xit_X3, xcd_X3_text, ⟨rfl, by decide +kernel, by decide +kernel, by decide +kernel⟩⟩
theorem xs_X3_71 : XSiteV RX3 71 RX10 yX10_addSign cX10_addSign 4 none 2 := ⟨xg8 139 rfl rfl, xim_X10_addSign, xse_X10_addSign, xit_X10, xcd_X10_addSign, ⟨rfl, by decide +kernel, by decide +kernel, by decide +kernel⟩⟩
theorem xs_X3_59 : XSiteV RX3 59 RX3 yX3_group cX3_group 7 (some .int) 3 := ⟨xg8 140 rfl rfl, xim_X3_group, xse_X3_group, xit_X3, xcd_X3_group, ⟨rfl, by decide +kernel, by decide +kernel, by decide +kernel⟩⟩
theorem xs_X3_75 : XSiteV RX3 75 RX3 yX3_sprout cX3_sprout 4 (some .int) 2 := ⟨xg8 144 rfl rfl, xim_X3_sprout, xse_X3_sprout, xit_X3, xcd_X3_sprout, ⟨rfl, by decide +kernel, by decide +kernel, by decide +kernel⟩⟩
theorem xs_X3_79 : XSiteV RX3 79 RX3 yX3_entry cX3_entry 7 none 3 := ⟨xg8 145 rfl rfl, xim_X3_entry, xse_X3_entry, xit_X3, xcd_X3_entry, ⟨rfl, by decide +kernel, by decide +kernel, by decide +kernel⟩⟩
theorem xs_X3_86 : XSiteV RX3 86 RX9 yX9_add cX9_add 2 none 1 := ⟨xg8 149 rfl rfl, xim_X9_add, xse_X9_add, xit_X9, xcd_X9_add, ⟨rfl, by decide +kernel, by decide +kernel, by decide +kernel⟩⟩
theorem xs_X3_83 : XSiteV RX3 83 RX10 yX10_close cX10_close 2 none 1 := ⟨xg8 150 rfl rfl, xim_X10_close, xse_X10_close, xit_X10, xcd_X10_close, ⟨rfl, by decide +kernel, by decide +kernel, by decide +kernel⟩⟩
theorem xs_X3_88 : XSiteV RX3 88 RX10 yX10_valueOf cX10_valueOf 5 (some .int) 2 := ⟨xg8 151 rfl rfl, xim_X10_valueOf, xse_X10_valueOf, xit_X10, xcd_X10_valueOf, ⟨rfl, by decide +kernel, by decide +kernel, by decide +kernel⟩⟩
theorem xs_X3_92 : XSiteV RX3 92 RX9 yX9_at cX9_at 2 (some .int) 1 := ⟨xg8 152 rfl rfl, xim_X9_at, xse_X9_at, xit_X9, xcd_X9_at, ⟨rfl, by decide +kernel, by decide +kernel, by decide +kernel⟩⟩
theorem xs_X3_95 : XSiteV RX3 95 RX10 yX10_addKeySign cX10_addKeySign 4 none 2 := ⟨xg8 153 rfl rfl, xim_X10_addKeySign, xse_X10_addKeySign, xit_X10, xcd_X10_addKeySign, ⟨rfl, by decide +kernel, by decide +kernel, by decide +kernel⟩⟩
theorem xs_X3_98 : XSiteV RX3 98 RX10 yX10_replaceByLast cX10_replaceByLast 4 none 3 := ⟨xg8 154 rfl rfl, xim_X10_replaceByLast, xse_X10_replaceByLast, xit_X10, xcd_X10_replaceByLast, ⟨rfl, by decide +kernel, by decide +kernel, by decide +kernel⟩⟩
theorem xs_X11_296 : XSiteV RX11 296 RX3 yX3_result cX3_result 1 (some (.object "Treeletter$Tree")) 0 := ⟨xg8 155 rfl rfl, xim_X3_result, xse_X3_result, xit_X3, xcd_X3_result, ⟨rfl, by decide +kernel, by decide +kernel, by decide +kernel⟩⟩
theorem xs_L_230 : XSiteW RL 230 yL_vary cL_vary 5 (some .int) [(0, 10, 13, 21), (0, 10, 17, 13), (0, 10, 21, 15)] 4 := ⟨xg8 159 rfl rfl, xst_L_vary, xit_L, xg8 161 rfl rfl, ⟨by decide +kernel, by decide +kernel, by decide +kernel⟩⟩
theorem xs_L_109 : XSiteV RL 109 RX11 yX11_vary cX11_vary 5 (some .int) 2 := ⟨xg8 162 rfl rfl, xim_X11_vary, xse_X11_vary, xit_X11, xcd_X11_vary, ⟨rfl, by decide +kernel, by decide +kernel, by decide +kernel⟩⟩
theorem xs_X11_297 : XSiteV RX11 297 RX10 yX10_count cX10_count 1 (some .int) 0 := ⟨xg8 166 rfl rfl, xim_X10_count, xse_X10_count, xit_X10, xcd_X10_count, ⟨rfl, by decide +kernel, by decide +kernel, by decide +kernel⟩⟩
theorem xs_X11_298 : XSiteV RX11 298 RX3 yX3_draw cX3_draw 2 (some .int) 1 := ⟨xg8 170 rfl rfl, xim_X3_draw, xse_X3_draw, xit_X3, xcd_X3_draw, ⟨rfl, by decide +kernel, by decide +kernel, by decide +kernel⟩⟩
theorem xs_X11_301 : XSiteV RX11 301 RX10 yX10_replace cX10_replace 4 none 3 := ⟨xg8 171 rfl rfl, xim_X10_replace, xse_X10_replace, xit_X10, xcd_X10_replace, ⟨rfl, by decide +kernel, by decide +kernel, by decide +kernel⟩⟩
theorem xs_L_233 : XSiteW RL 233 yL_sum cL_sum 4 (some .int) [(0, 9, 12, 13)] 3 := ⟨xg8 172 rfl rfl, xst_L_sum, xit_L, xg8 174 rfl rfl, ⟨by decide +kernel, by decide +kernel, by decide +kernel⟩⟩
theorem xs_L_112 : XSiteV RL 112 RX11 yX11_sum cX11_sum 2 (some .int) 1 := ⟨xg8 175 rfl rfl, xim_X11_sum, xse_X11_sum, xit_X11, xcd_X11_sum, ⟨rfl, by decide +kernel, by decide +kernel, by decide +kernel⟩⟩
theorem xs_X11_305 : XSiteV RX11 305 RX11 yX11_allNodes cX11_allNodes 3 (some .int) 0 := ⟨xg8 179 rfl rfl, xim_X11_allNodes, xse_X11_allNodes, xit_X11, xcd_X11_allNodes, ⟨rfl, by decide +kernel, by decide +kernel, by decide +kernel⟩⟩
theorem xs_L_236 : XSiteW RL 236 yL_isSound cL_isSound 4 (some .int) [(0, 16, 19, 21)] 3 := ⟨xg8 183 rfl rfl, xst_L_isSound, xit_L, xg8 185 rfl rfl, ⟨by decide +kernel, by decide +kernel, by decide +kernel⟩⟩
theorem xs_L_115 : XSiteV RL 115 RX11 yX11_isSound cX11_isSound 5 (some .boolean) 1 := ⟨xg8 186 rfl rfl, xim_X11_isSound, xse_X11_isSound, xit_X11, xcd_X11_isSound, ⟨rfl, by decide +kernel, by decide +kernel, by decide +kernel⟩⟩
theorem xs_X11_312 : XSiteV RX11 312 RX10 yX10_isWithinBounds cX10_isWithinBounds 3 (some .boolean) 0 := ⟨xg8 190 rfl rfl, xim_X10_isWithinBounds, xse_X10_isWithinBounds, xit_X10, xcd_X10_isWithinBounds, ⟨rfl, by decide +kernel, by decide +kernel, by decide +kernel⟩⟩
theorem xs_X10_99 : XSiteV RX10 99 RX10 yX10_hasSoundSigns cX10_hasSoundSigns 5 (some .boolean) 1 := ⟨xg8 194 rfl rfl, xim_X10_hasSoundSigns, xse_X10_hasSoundSigns, xit_X10, xcd_X10_hasSoundSigns, ⟨rfl, by decide +kernel, by decide +kernel, by decide +kernel⟩⟩
theorem xs_X10_102 : XSiteV RX10 102 RX10 yX10_hasSoundKeys cX10_hasSoundKeys 5 (some .boolean) 1 := ⟨xg8 198 rfl rfl, xim_X10_hasSoundKeys, xse_X10_hasSoundKeys, xit_X10, xcd_X10_hasSoundKeys, ⟨rfl, by decide +kernel, by decide +kernel, by decide +kernel⟩⟩
theorem xs_L_131 : XSiteV RL 131 RX12 yX12_thrown cX12_thrown 1 (some .int) 0 := ⟨xg8 202 rfl rfl, xim_X12_thrown, xse_X12_thrown, xit_X12, xcd_X12_thrown, ⟨rfl, by decide +kernel, by decide +kernel, by decide +kernel⟩⟩
theorem xs_L_122 : XSiteI RL 122 yX12_init cX12_init 3 0 := ⟨Or.inl (xg8 208 rfl rfl), xim_X12_init, xit_X12, xcd_X12_init, rfl, ⟨by decide +kernel, by decide +kernel, by decide +kernel⟩⟩
theorem xs_X12_81 : Cond.methodLink RX12 81 objectInit ∈ xg := xg8 211 rfl rfl
theorem xs_X12_448 : XSiteV RX12 448 RX12 yX12_reads cX12_reads 11 (some .int) 1 := ⟨xg9 80 rfl rfl, xim_X12_reads, xse_X12_reads, xit_X12, xcd_X12_reads, ⟨rfl, by decide +kernel, by decide +kernel, by decide +kernel⟩⟩
theorem xs_X12_517 : XSiteV RX12 517 RX12 yX12_begin cX12_begin 2 none 1 := ⟨xg9 84 rfl rfl, xim_X12_begin, xse_X12_begin, xit_X12, xcd_X12_begin, ⟨rfl, by decide +kernel, by decide +kernel, by decide +kernel⟩⟩
theorem xs_X12_514 : XSiteV RX12 514 RX12 yX12_isBlank cX12_isBlank 1 (some .boolean) 0 := ⟨xg9 88 rfl rfl, xim_X12_isBlank, xse_X12_isBlank, xit_X12, xcd_X12_isBlank, ⟨rfl, by decide +kernel, by decide +kernel, by decide +kernel⟩⟩
theorem xs_X12_471 : XSiteV RX12 471 RX12 yX12_sign cX12_sign 1 (some .int) 0 := ⟨xg9 92 rfl rfl, xim_X12_sign, xse_X12_sign, xit_X12, xcd_X12_sign, ⟨rfl, by decide +kernel, by decide +kernel, by decide +kernel⟩⟩
theorem xs_X12_52 : XSiteV RX12 52 RX12 yX12_kind cX12_kind 3 (some .int) 2 := ⟨xg9 96 rfl rfl, xim_X12_kind, xse_X12_kind, xit_X12, xcd_X12_kind, ⟨rfl, by decide +kernel, by decide +kernel, by decide +kernel⟩⟩
theorem xs_X12_11 : XSiteS RX12 11 yX12_at cX12_at 2 (some .int) 2 := ⟨xg9 100 rfl rfl, xst_X12_at, xit_X12, xcd_X12_at, ⟨by decide +kernel, by decide +kernel, by decide +kernel⟩⟩
theorem xs_X12_520 : XSiteV RX12 520 RX12 yX12_readsKey cX12_readsKey 6 (some .boolean) 1 := ⟨xg9 103 rfl rfl, xim_X12_readsKey, xse_X12_readsKey, xit_X12, xcd_X12_readsKey, ⟨rfl, by decide +kernel, by decide +kernel, by decide +kernel⟩⟩
theorem xs_X12_489 : XSiteV RX12 489 RX12 yX12_readsText cX12_readsText 5 (some .boolean) 1 := ⟨xg9 107 rfl rfl, xim_X12_readsText, xse_X12_readsText, xit_X12, xcd_X12_readsText, ⟨rfl, by decide +kernel, by decide +kernel, by decide +kernel⟩⟩
theorem xs_X12_475 : XSiteV RX12 475 RX12 yX12_escaped cX12_escaped 2 (some .int) 1 := ⟨xg9 111 rfl rfl, xim_X12_escaped, xse_X12_escaped, xit_X12, xcd_X12_escaped, ⟨rfl, by decide +kernel, by decide +kernel, by decide +kernel⟩⟩
theorem xs_X12_478 : XSiteV RX12 478 RX12 yX12_hex cX12_hex 2 (some .int) 1 := ⟨xg9 115 rfl rfl, xim_X12_hex, xse_X12_hex, xit_X12, xcd_X12_hex, ⟨rfl, by decide +kernel, by decide +kernel, by decide +kernel⟩⟩
theorem xs_X12_18 : XSiteS RX12 18 yX12_in cX12_in 3 (some .boolean) 3 := ⟨xg9 119 rfl rfl, xst_X12_in, xit_X12, xcd_X12_in, ⟨by decide +kernel, by decide +kernel, by decide +kernel⟩⟩
theorem xs_X12_36 : XSiteV RX12 36 RX12 yX12_part cX12_part 4 (some .int) 3 := ⟨xg9 122 rfl rfl, xim_X12_part, xse_X12_part, xit_X12, xcd_X12_part, ⟨rfl, by decide +kernel, by decide +kernel, by decide +kernel⟩⟩
theorem xs_X12_523 : XSiteV RX12 523 RX12 yX12_kindAhead cX12_kindAhead 2 (some .int) 0 := ⟨xg9 126 rfl rfl, xim_X12_kindAhead, xse_X12_kindAhead, xit_X12, xcd_X12_kindAhead, ⟨rfl, by decide +kernel, by decide +kernel, by decide +kernel⟩⟩
theorem xs_X12_481 : XSiteV RX12 481 RX12 yX12_isFigure cX12_isFigure 1 (some .boolean) 0 := ⟨xg9 130 rfl rfl, xim_X12_isFigure, xse_X12_isFigure, xit_X12, xcd_X12_isFigure, ⟨rfl, by decide +kernel, by decide +kernel, by decide +kernel⟩⟩
theorem xs_X12_33 : XSiteV RX12 33 RX12 yX12_added cX12_added 5 (some .int) 2 := ⟨xg9 134 rfl rfl, xim_X12_added, xse_X12_added, xit_X12, xcd_X12_added, ⟨rfl, by decide +kernel, by decide +kernel, by decide +kernel⟩⟩
theorem xs_X12_526 : XSiteV RX12 526 RX12 yX12_readsValue cX12_readsValue 4 (some .boolean) 1 := ⟨xg9 138 rfl rfl, xim_X12_readsValue, xse_X12_readsValue, xit_X12, xcd_X12_readsValue, ⟨rfl, by decide +kernel, by decide +kernel, by decide +kernel⟩⟩
theorem xs_X12_492 : XSiteV RX12 492 RX12 yX12_textIs cX12_textIs 4 none 2 := ⟨xg9 142 rfl rfl, xim_X12_textIs, xse_X12_textIs, xit_X12, xcd_X12_textIs, ⟨rfl, by decide +kernel, by decide +kernel, by decide +kernel⟩⟩
theorem xs_X12_497 : XSiteV RX12 497 RX12 yX12_readsLetters cX12_readsLetters 4 (some .boolean) 1 := ⟨xg9 147 rfl rfl, xim_X12_readsLetters, xse_X12_readsLetters, xit_X12, xcd_X12_readsLetters, ⟨rfl, by decide +kernel, by decide +kernel, by decide +kernel⟩⟩
theorem xs_X12_74 : XSiteV RX12 74 RX12 yX12_says cX12_says 5 none 1 := ⟨xg9 151 rfl rfl, xim_X12_says, xse_X12_says, xit_X12, xcd_X12_says, ⟨rfl, by decide +kernel, by decide +kernel, by decide +kernel⟩⟩
theorem xs_X12_505 : XSiteV RX12 505 RX12 yX12_readsNumber cX12_readsNumber 11 (some .boolean) 1 := ⟨xg9 157 rfl rfl, xim_X12_readsNumber, xse_X12_readsNumber, xit_X12, xcd_X12_readsNumber, ⟨rfl, by decide +kernel, by decide +kernel, by decide +kernel⟩⟩
theorem xs_X12_485 : XSiteV RX12 485 RX12 yX12_isNumber cX12_isNumber 10 (some .boolean) 4 := ⟨xg9 161 rfl rfl, xim_X12_isNumber, xse_X12_isNumber, xit_X12, xcd_X12_isNumber, ⟨rfl, by decide +kernel, by decide +kernel, by decide +kernel⟩⟩
theorem xs_X12_55 : XSiteV RX12 55 RX12 yX12_link cX12_link 5 none 1 := ⟨xg9 165 rfl rfl, xim_X12_link, xse_X12_link, xit_X12, xcd_X12_link, ⟨rfl, by decide +kernel, by decide +kernel, by decide +kernel⟩⟩
theorem xs_X12_529 : XSiteV RX12 529 RX12 yX12_choose cX12_choose 10 none 4 := ⟨xg9 169 rfl rfl, xim_X12_choose, xse_X12_choose, xit_X12, xcd_X12_choose, ⟨rfl, by decide +kernel, by decide +kernel, by decide +kernel⟩⟩
theorem xs_X12_40 : XSiteV RX12 40 RX12 yX12_like cX12_like 6 (some .int) 3 := ⟨xg9 173 rfl rfl, xim_X12_like, xse_X12_like, xit_X12, xcd_X12_like, ⟨rfl, by decide +kernel, by decide +kernel, by decide +kernel⟩⟩
theorem xs_X12_542 : XSiteV RX12 542 RX12 yX12_noKey cX12_noKey 3 none 2 := ⟨xg9 177 rfl rfl, xim_X12_noKey, xse_X12_noKey, xit_X12, xcd_X12_noKey, ⟨rfl, by decide +kernel, by decide +kernel, by decide +kernel⟩⟩
theorem xs_X12_545 : XSiteV RX12 545 RX12 yX12_nextChild cX12_nextChild 9 (some .int) 4 := ⟨xg9 181 rfl rfl, xim_X12_nextChild, xse_X12_nextChild, xit_X12, xcd_X12_nextChild, ⟨rfl, by decide +kernel, by decide +kernel, by decide +kernel⟩⟩
theorem xs_X12_49 : XSiteV RX12 49 RX12 yX12_endOf cX12_endOf 3 (some .int) 2 := ⟨xg9 185 rfl rfl, xim_X12_endOf, xse_X12_endOf, xit_X12, xcd_X12_endOf, ⟨rfl, by decide +kernel, by decide +kernel, by decide +kernel⟩⟩
theorem xs_X12_62 : XSiteV RX12 62 RX12 yX12_byKeys cX12_byKeys 8 (some .int) 4 := ⟨xg9 189 rfl rfl, xim_X12_byKeys, xse_X12_byKeys, xit_X12, xcd_X12_byKeys, ⟨rfl, by decide +kernel, by decide +kernel, by decide +kernel⟩⟩
theorem xs_X12_539 : XSiteV RX12 539 RX12 yX12_isLater cX12_isLater 5 (some .boolean) 3 := ⟨xg9 193 rfl rfl, xim_X12_isLater, xse_X12_isLater, xit_X12, xcd_X12_isLater, ⟨rfl, by decide +kernel, by decide +kernel, by decide +kernel⟩⟩
theorem xs_X12_548 : XSiteV RX12 548 RX12 yX12_lastLike cX12_lastLike 6 (some .int) 3 := ⟨xg9 197 rfl rfl, xim_X12_lastLike, xse_X12_lastLike, xit_X12, xcd_X12_lastLike, ⟨rfl, by decide +kernel, by decide +kernel, by decide +kernel⟩⟩
theorem xs_X12_452 : XSiteV RX12 452 RX12 yX12_becomes cX12_becomes 4 none 2 := ⟨xg9 201 rfl rfl, xim_X12_becomes, xse_X12_becomes, xit_X12, xcd_X12_becomes, ⟨rfl, by decide +kernel, by decide +kernel, by decide +kernel⟩⟩
theorem xs_L_130 : XSiteV RL 130 RX12 yX12_write cX12_write 7 (some .int) 2 := ⟨xg10 225 rfl rfl, xim_X12_write, xse_X12_write, xit_X12, xcd_X12_write, ⟨rfl, by decide +kernel, by decide +kernel, by decide +kernel⟩⟩
theorem xs_X12_456 : XSiteV RX12 456 RX12 yX12_fails cX12_fails 3 (some .boolean) 2 := ⟨xg10 229 rfl rfl, xim_X12_fails, xse_X12_fails, xit_X12, xcd_X12_fails, ⟨rfl, by decide +kernel, by decide +kernel, by decide +kernel⟩⟩
theorem xs_L_137 : XSiteV RL 137 RX12 yX12_wipe cX12_wipe 2 (some .int) 0 := ⟨xg10 233 rfl rfl, xim_X12_wipe, xse_X12_wipe, xit_X12, xcd_X12_wipe, ⟨rfl, by decide +kernel, by decide +kernel, by decide +kernel⟩⟩
theorem xs_L_141 : XSiteV RL 141 RX12 yX12_paper cX12_paper 6 (some .long) 2 := ⟨xg10 237 rfl rfl, xim_X12_paper, xse_X12_paper, xit_X12, xcd_X12_paper, ⟨rfl, by decide +kernel, by decide +kernel, by decide +kernel⟩⟩
theorem xs_L_145 : XSiteV RL 145 RX12 yX12_rule cX12_rule 3 (some .int) 1 := ⟨xg11 2 rfl rfl, xim_X12_rule, xse_X12_rule, xit_X12, xcd_X12_rule, ⟨rfl, by decide +kernel, by decide +kernel, by decide +kernel⟩⟩
theorem xs_L_149 : XSiteV RL 149 RX12 yX12_read cX12_read 2 (some .int) 0 := ⟨xg11 6 rfl rfl, xim_X12_read, xse_X12_read, xit_X12, xcd_X12_read, ⟨rfl, by decide +kernel, by decide +kernel, by decide +kernel⟩⟩
theorem xs_X12_536 : XSiteV RX12 536 RX12 yX12_keeps cX12_keeps 3 (some .int) 1 := ⟨xg11 10 rfl rfl, xim_X12_keeps, xse_X12_keeps, xit_X12, xcd_X12_keeps, ⟨rfl, by decide +kernel, by decide +kernel, by decide +kernel⟩⟩
theorem xs_L_152 : XSiteV RL 152 RX12 yX12_print cX12_print 3 (some .int) 2 := ⟨xg11 14 rfl rfl, xim_X12_print, xse_X12_print, xit_X12, xcd_X12_print, ⟨rfl, by decide +kernel, by decide +kernel, by decide +kernel⟩⟩
theorem xs_X12_22 : XSiteV RX12 22 RX12 yX12_isDoc cX12_isDoc 2 (some .boolean) 1 := ⟨xg11 18 rfl rfl, xim_X12_isDoc, xse_X12_isDoc, xit_X12, xcd_X12_isDoc, ⟨rfl, by decide +kernel, by decide +kernel, by decide +kernel⟩⟩
theorem xs_X12_574 : XSiteV RX12 574 RX12 yX12_writes cX12_writes 8 none 4 := ⟨xg11 22 rfl rfl, xim_X12_writes, xse_X12_writes, xit_X12, xcd_X12_writes, ⟨rfl, by decide +kernel, by decide +kernel, by decide +kernel⟩⟩
theorem xs_X12_568 : XSiteV RX12 568 RX12 yX12_putsScalar cX12_putsScalar 7 none 3 := ⟨xg11 26 rfl rfl, xim_X12_putsScalar, xse_X12_putsScalar, xit_X12, xcd_X12_putsScalar, ⟨rfl, by decide +kernel, by decide +kernel, by decide +kernel⟩⟩
theorem xs_X12_557 : XSiteV RX12 557 RX12 yX12_putsLetters cX12_putsLetters 6 none 2 := ⟨xg11 30 rfl rfl, xim_X12_putsLetters, xse_X12_putsLetters, xit_X12, xcd_X12_putsLetters, ⟨rfl, by decide +kernel, by decide +kernel, by decide +kernel⟩⟩
theorem xs_X12_551 : XSiteV RX12 551 RX12 yX12_puts cX12_puts 3 none 2 := ⟨xg11 34 rfl rfl, xim_X12_puts, xse_X12_puts, xit_X12, xcd_X12_puts, ⟨rfl, by decide +kernel, by decide +kernel, by decide +kernel⟩⟩
theorem xs_X12_561 : XSiteV RX12 561 RX12 yX12_putsQuoted cX12_putsQuoted 6 none 3 := ⟨xg11 38 rfl rfl, xim_X12_putsQuoted, xse_X12_putsQuoted, xit_X12, xcd_X12_putsQuoted, ⟨rfl, by decide +kernel, by decide +kernel, by decide +kernel⟩⟩
theorem xs_X12_554 : XSiteS RX12 554 yX12_hexSign cX12_hexSign 1 (some .int) 1 := ⟨xg11 42 rfl rfl, xst_X12_hexSign, xit_X12, xcd_X12_hexSign, ⟨by decide +kernel, by decide +kernel, by decide +kernel⟩⟩
theorem xs_X12_565 : XSiteV RX12 565 RX12 yX12_putsInt cX12_putsInt 4 none 2 := ⟨xg11 45 rfl rfl, xim_X12_putsInt, xse_X12_putsInt, xit_X12, xcd_X12_putsInt, ⟨rfl, by decide +kernel, by decide +kernel, by decide +kernel⟩⟩
theorem xs_X12_571 : XSiteV RX12 571 RX12 yX12_putsLine cX12_putsLine 4 none 2 := ⟨xg11 49 rfl rfl, xim_X12_putsLine, xse_X12_putsLine, xit_X12, xcd_X12_putsLine, ⟨rfl, by decide +kernel, by decide +kernel, by decide +kernel⟩⟩
theorem xs_X12_577 : XSiteV RX12 577 RX12 yX12_onPaper cX12_onPaper 2 (some .int) 0 := ⟨xg11 53 rfl rfl, xim_X12_onPaper, xse_X12_onPaper, xit_X12, xcd_X12_onPaper, ⟨rfl, by decide +kernel, by decide +kernel, by decide +kernel⟩⟩
theorem xs_L_156 : XSiteV RL 156 RX12 yX12_node cX12_node 5 (some .int) 3 := ⟨xg11 57 rfl rfl, xim_X12_node, xse_X12_node, xit_X12, xcd_X12_node, ⟨rfl, by decide +kernel, by decide +kernel, by decide +kernel⟩⟩
theorem xs_X12_580 : XSiteV RX12 580 RX12 yX12_isNode cX12_isNode 3 (some .boolean) 2 := ⟨xg11 61 rfl rfl, xim_X12_isNode, xse_X12_isNode, xit_X12, xcd_X12_isNode, ⟨rfl, by decide +kernel, by decide +kernel, by decide +kernel⟩⟩
theorem xs_X12_59 : XSiteV RX12 59 RX12 yX12_deepOf cX12_deepOf 7 (some .int) 2 := ⟨xg11 65 rfl rfl, xim_X12_deepOf, xse_X12_deepOf, xit_X12, xcd_X12_deepOf, ⟨rfl, by decide +kernel, by decide +kernel, by decide +kernel⟩⟩
theorem xs_L_159 : XSiteV RL 159 RX12 yX12_tell cX12_tell 7 (some .int) 3 := ⟨xg11 69 rfl rfl, xim_X12_tell, xse_X12_tell, xit_X12, xcd_X12_tell, ⟨rfl, by decide +kernel, by decide +kernel, by decide +kernel⟩⟩
theorem xs_X12_587 : XSiteV RX12 587 RX12 yX12_putsPath cX12_putsPath 5 none 2 := ⟨xg11 73 rfl rfl, xim_X12_putsPath, xse_X12_putsPath, xit_X12, xcd_X12_putsPath, ⟨rfl, by decide +kernel, by decide +kernel, by decide +kernel⟩⟩
theorem xs_X12_584 : XSiteV RX12 584 RX12 yX12_putsStep cX12_putsStep 5 none 2 := ⟨xg11 77 rfl rfl, xim_X12_putsStep, xse_X12_putsStep, xit_X12, xcd_X12_putsStep, ⟨rfl, by decide +kernel, by decide +kernel, by decide +kernel⟩⟩
theorem xs_L_162 : XSiteV RL 162 RX12 yX12_equal cX12_equal 3 (some .boolean) 2 := ⟨xg11 81 rfl rfl, xim_X12_equal, xse_X12_equal, xit_X12, xcd_X12_equal, ⟨rfl, by decide +kernel, by decide +kernel, by decide +kernel⟩⟩
theorem xs_X12_590 : XSiteV RX12 590 RX12 yX12_areEqual cX12_areEqual 7 (some .boolean) 4 := ⟨xg11 85 rfl rfl, xim_X12_areEqual, xse_X12_areEqual, xit_X12, xcd_X12_areEqual, ⟨rfl, by decide +kernel, by decide +kernel, by decide +kernel⟩⟩
theorem xs_L_165 : XSiteV RL 165 RX12 yX12_compare cX12_compare 3 (some .int) 2 := ⟨xg11 89 rfl rfl, xim_X12_compare, xse_X12_compare, xit_X12, xcd_X12_compare, ⟨rfl, by decide +kernel, by decide +kernel, by decide +kernel⟩⟩
theorem xs_X12_594 : XSiteV RX12 594 RX12 yX12_compared cX12_compared 10 (some .int) 4 := ⟨xg11 93 rfl rfl, xim_X12_compared, xse_X12_compared, xit_X12, xcd_X12_compared, ⟨rfl, by decide +kernel, by decide +kernel, by decide +kernel⟩⟩
theorem xs_L_168 : XSiteV RL 168 RX12 yX12_digest cX12_digest 5 (some .int) 2 := ⟨xg11 97 rfl rfl, xim_X12_digest, xse_X12_digest, xit_X12, xcd_X12_digest, ⟨rfl, by decide +kernel, by decide +kernel, by decide +kernel⟩⟩
theorem xs_L_171 : XSiteV RL 171 RX12 yX12_take cX12_take 3 (some .int) 2 := ⟨xg11 102 rfl rfl, xim_X12_take, xse_X12_take, xit_X12, xcd_X12_take, ⟨rfl, by decide +kernel, by decide +kernel, by decide +kernel⟩⟩
theorem xs_L_174 : XSiteV RL 174 RX12 yX12_sorted cX12_sorted 2 (some .int) 1 := ⟨xg11 106 rfl rfl, xim_X12_sorted, xse_X12_sorted, xit_X12, xcd_X12_sorted, ⟨rfl, by decide +kernel, by decide +kernel, by decide +kernel⟩⟩
theorem xs_L_177 : XSiteV RL 177 RX12 yX12_both cX12_both 4 (some .int) 2 := ⟨xg11 110 rfl rfl, xim_X12_both, xse_X12_both, xit_X12, xcd_X12_both, ⟨rfl, by decide +kernel, by decide +kernel, by decide +kernel⟩⟩
theorem xs_X12_598 : XSiteV RX12 598 RX12 yX12_copies cX12_copies 8 none 4 := ⟨xg11 114 rfl rfl, xim_X12_copies, xse_X12_copies, xit_X12, xcd_X12_copies, ⟨rfl, by decide +kernel, by decide +kernel, by decide +kernel⟩⟩
theorem xs_X12_601 : XSiteV RX12 601 RX12 yX12_isWhole cX12_isWhole 2 (some .boolean) 1 := ⟨xg11 118 rfl rfl, xim_X12_isWhole, xse_X12_isWhole, xit_X12, xcd_X12_isWhole, ⟨rfl, by decide +kernel, by decide +kernel, by decide +kernel⟩⟩
theorem xs_L_180 : XSiteV RL 180 RX12 yX12_undo cX12_undo 1 (some .int) 0 := ⟨xg11 122 rfl rfl, xim_X12_undo, xse_X12_undo, xit_X12, xcd_X12_undo, ⟨rfl, by decide +kernel, by decide +kernel, by decide +kernel⟩⟩
theorem xs_L_183 : XSiteV RL 183 RX12 yX12_select cX12_select 4 (some .int) 1 := ⟨xg11 126 rfl rfl, xim_X12_select, xse_X12_select, xit_X12, xcd_X12_select, ⟨rfl, by decide +kernel, by decide +kernel, by decide +kernel⟩⟩
theorem xs_X12_638 : XSiteV RX12 638 RX12 yX12_pathOfPage cX12_pathOfPage 2 none 0 := ⟨xg11 130 rfl rfl, xim_X12_pathOfPage, xse_X12_pathOfPage, xit_X12, xcd_X12_pathOfPage, ⟨rfl, by decide +kernel, by decide +kernel, by decide +kernel⟩⟩
theorem xs_X12_641 : XSiteV RX12 641 RX12 yX12_isPath cX12_isPath 3 (some .boolean) 0 := ⟨xg11 134 rfl rfl, xim_X12_isPath, xse_X12_isPath, xit_X12, xcd_X12_isPath, ⟨rfl, by decide +kernel, by decide +kernel, by decide +kernel⟩⟩
theorem xs_X12_619 : XSiteV RX12 619 RX12 yX12_step cX12_step 2 none 1 := ⟨xg11 138 rfl rfl, xim_X12_step, xse_X12_step, xit_X12, xcd_X12_step, ⟨rfl, by decide +kernel, by decide +kernel, by decide +kernel⟩⟩
theorem xs_X12_647 : XSiteV RX12 647 RX12 yX12_selectsBy cX12_selectsBy 8 none 2 := ⟨xg11 142 rfl rfl, xim_X12_selectsBy, xse_X12_selectsBy, xit_X12, xcd_X12_selectsBy, ⟨rfl, by decide +kernel, by decide +kernel, by decide +kernel⟩⟩
theorem xs_X12_632 : XSiteV RX12 632 RX12 yX12_meets cX12_meets 2 none 1 := ⟨xg11 146 rfl rfl, xim_X12_meets, xse_X12_meets, xit_X12, xcd_X12_meets, ⟨rfl, by decide +kernel, by decide +kernel, by decide +kernel⟩⟩
theorem xs_X12_622 : XSiteV RX12 622 RX12 yX12_wordOf cX12_wordOf 5 none 2 := ⟨xg11 150 rfl rfl, xim_X12_wordOf, xse_X12_wordOf, xit_X12, xcd_X12_wordOf, ⟨rfl, by decide +kernel, by decide +kernel, by decide +kernel⟩⟩
theorem xs_X12_625 : XSiteV RX12 625 RX12 yX12_stepped cX12_stepped 7 (some .int) 3 := ⟨xg11 154 rfl rfl, xim_X12_stepped, xse_X12_stepped, xit_X12, xcd_X12_stepped, ⟨rfl, by decide +kernel, by decide +kernel, by decide +kernel⟩⟩
theorem xs_X12_78 : XSiteV RX12 78 RX12 yX12_childByWord cX12_childByWord 7 (some .int) 2 := ⟨xg11 158 rfl rfl, xim_X12_childByWord, xse_X12_childByWord, xit_X12, xcd_X12_childByWord, ⟨rfl, by decide +kernel, by decide +kernel, by decide +kernel⟩⟩
theorem xs_X12_613 : XSiteV RX12 613 RX12 yX12_figured cX12_figured 4 (some .int) 1 := ⟨xg11 162 rfl rfl, xim_X12_figured, xse_X12_figured, xit_X12, xcd_X12_figured, ⟨rfl, by decide +kernel, by decide +kernel, by decide +kernel⟩⟩
theorem xs_X12_616 : XSiteV RX12 616 RX12 yX12_childAt cX12_childAt 6 (some .int) 3 := ⟨xg11 166 rfl rfl, xim_X12_childAt, xse_X12_childAt, xit_X12, xcd_X12_childAt, ⟨rfl, by decide +kernel, by decide +kernel, by decide +kernel⟩⟩
theorem xs_X12_635 : XSiteV RX12 635 RX12 yX12_isSo cX12_isSo 7 (some .boolean) 3 := ⟨xg11 170 rfl rfl, xim_X12_isSo, xse_X12_isSo, xit_X12, xcd_X12_isSo, ⟨rfl, by decide +kernel, by decide +kernel, by decide +kernel⟩⟩
theorem xs_L_186 : XSiteV RL 186 RX12 yX12_find cX12_find 2 (some .int) 1 := ⟨xg11 174 rfl rfl, xim_X12_find, xse_X12_find, xit_X12, xcd_X12_find, ⟨rfl, by decide +kernel, by decide +kernel, by decide +kernel⟩⟩
theorem xs_L_189 : XSiteV RL 189 RX12 yX12_put cX12_put 3 (some .int) 2 := ⟨xg11 178 rfl rfl, xim_X12_put, xse_X12_put, xit_X12, xcd_X12_put, ⟨rfl, by decide +kernel, by decide +kernel, by decide +kernel⟩⟩
theorem xs_X12_673 : XSiteV RX12 673 RX12 yX12_canPut cX12_canPut 10 (some .boolean) 4 := ⟨xg11 182 rfl rfl, xim_X12_canPut, xse_X12_canPut, xit_X12, xcd_X12_canPut, ⟨rfl, by decide +kernel, by decide +kernel, by decide +kernel⟩⟩
theorem xs_X12_656 : XSiteV RX12 656 RX12 yX12_brings cX12_brings 6 none 4 := ⟨xg11 186 rfl rfl, xim_X12_brings, xse_X12_brings, xit_X12, xcd_X12_brings, ⟨rfl, by decide +kernel, by decide +kernel, by decide +kernel⟩⟩
theorem xs_X12_650 : XSiteV RX12 650 RX12 yX12_keyIs cX12_keyIs 4 none 2 := ⟨xg11 190 rfl rfl, xim_X12_keyIs, xse_X12_keyIs, xit_X12, xcd_X12_keyIs, ⟨rfl, by decide +kernel, by decide +kernel, by decide +kernel⟩⟩
theorem xs_X12_660 : XSiteV RX12 660 RX12 yX12_lastStep cX12_lastStep 2 (some .int) 0 := ⟨xg11 194 rfl rfl, xim_X12_lastStep, xse_X12_lastStep, xit_X12, xcd_X12_lastStep, ⟨rfl, by decide +kernel, by decide +kernel, by decide +kernel⟩⟩
theorem xs_X12_663 : XSiteV RX12 663 RX12 yX12_plain cX12_plain 5 (some .int) 2 := ⟨xg11 198 rfl rfl, xim_X12_plain, xse_X12_plain, xit_X12, xcd_X12_plain, ⟨rfl, by decide +kernel, by decide +kernel, by decide +kernel⟩⟩
theorem xs_X12_666 : XSiteV RX12 666 RX12 yX12_replaced cX12_replaced 6 none 5 := ⟨xg11 202 rfl rfl, xim_X12_replaced, xse_X12_replaced, xit_X12, xcd_X12_replaced, ⟨rfl, by decide +kernel, by decide +kernel, by decide +kernel⟩⟩
theorem xs_X12_653 : XSiteV RX12 653 RX12 yX12_wordOfKey cX12_wordOfKey 4 none 2 := ⟨xg11 206 rfl rfl, xim_X12_wordOfKey, xse_X12_wordOfKey, xit_X12, xcd_X12_wordOfKey, ⟨rfl, by decide +kernel, by decide +kernel, by decide +kernel⟩⟩
theorem xs_L_192 : XSiteV RL 192 RX12 yX12_cut cX12_cut 2 (some .int) 1 := ⟨xg11 210 rfl rfl, xim_X12_cut, xse_X12_cut, xit_X12, xcd_X12_cut, ⟨rfl, by decide +kernel, by decide +kernel, by decide +kernel⟩⟩
theorem xs_X12_676 : XSiteV RX12 676 RX12 yX12_canCut cX12_canCut 4 (some .boolean) 2 := ⟨xg11 214 rfl rfl, xim_X12_canCut, xse_X12_canCut, xit_X12, xcd_X12_canCut, ⟨rfl, by decide +kernel, by decide +kernel, by decide +kernel⟩⟩
theorem xs_X12_670 : XSiteV RX12 670 RX12 yX12_taken cX12_taken 4 none 3 := ⟨xg11 218 rfl rfl, xim_X12_taken, xse_X12_taken, xit_X12, xcd_X12_taken, ⟨rfl, by decide +kernel, by decide +kernel, by decide +kernel⟩⟩
theorem xs_L_195 : XSiteV RL 195 RX12 yX12_lay cX12_lay 4 (some .int) 2 := ⟨xg11 222 rfl rfl, xim_X12_lay, xse_X12_lay, xit_X12, xcd_X12_lay, ⟨rfl, by decide +kernel, by decide +kernel, by decide +kernel⟩⟩
theorem xs_X12_711 : XSiteV RX12 711 RX12 yX12_lays cX12_lays 5 (some .int) 3 := ⟨xg11 226 rfl rfl, xim_X12_lays, xse_X12_lays, xit_X12, xcd_X12_lays, ⟨rfl, by decide +kernel, by decide +kernel, by decide +kernel⟩⟩
theorem xs_X12_708 : XSiteV RX12 708 RX12 yX12_does cX12_does 7 (some .boolean) 2 := ⟨xg11 230 rfl rfl, xim_X12_does, xse_X12_does, xit_X12, xcd_X12_does, ⟨rfl, by decide +kernel, by decide +kernel, by decide +kernel⟩⟩
theorem xs_X12_701 : XSiteV RX12 701 RX12 yX12_opOf cX12_opOf 6 (some .int) 2 := ⟨xg11 234 rfl rfl, xim_X12_opOf, xse_X12_opOf, xit_X12, xcd_X12_opOf, ⟨rfl, by decide +kernel, by decide +kernel, by decide +kernel⟩⟩
theorem xs_X12_681 : XSiteV RX12 681 RX12 yX12_childNamed cX12_childNamed 5 (some .int) 3 := ⟨xg11 239 rfl rfl, xim_X12_childNamed, xse_X12_childNamed, xit_X12, xcd_X12_childNamed, ⟨rfl, by decide +kernel, by decide +kernel, by decide +kernel⟩⟩
theorem xs_X12_687 : XSiteV RX12 687 RX12 yX12_pathOf cX12_pathOf 4 none 2 := ⟨xg12 4 rfl rfl, xim_X12_pathOf, xse_X12_pathOf, xit_X12, xcd_X12_pathOf, ⟨rfl, by decide +kernel, by decide +kernel, by decide +kernel⟩⟩
theorem xs_X12_690 : XSiteV RX12 690 RX12 yX12_isText cX12_isText 7 (some .boolean) 3 := ⟨xg12 8 rfl rfl, xim_X12_isText, xse_X12_isText, xit_X12, xcd_X12_isText, ⟨rfl, by decide +kernel, by decide +kernel, by decide +kernel⟩⟩
theorem xs_X12_694 : XSiteV RX12 694 RX12 yX12_isTold cX12_isTold 5 (some .boolean) 3 := ⟨xg12 12 rfl rfl, xim_X12_isTold, xse_X12_isTold, xit_X12, xcd_X12_isTold, ⟨rfl, by decide +kernel, by decide +kernel, by decide +kernel⟩⟩
theorem xs_X12_704 : XSiteV RX12 704 RX12 yX12_pathNamed cX12_pathNamed 5 none 3 := ⟨xg12 18 rfl rfl, xim_X12_pathNamed, xse_X12_pathNamed, xit_X12, xcd_X12_pathNamed, ⟨rfl, by decide +kernel, by decide +kernel, by decide +kernel⟩⟩
theorem xs_L_198 : XSiteV RL 198 RX12 yX12_patch cX12_patch 3 (some .int) 2 := ⟨xg12 22 rfl rfl, xim_X12_patch, xse_X12_patch, xit_X12, xcd_X12_patch, ⟨rfl, by decide +kernel, by decide +kernel, by decide +kernel⟩⟩
theorem xs_X12_747 : XSiteV RX12 747 RX12 yX12_makesPatch cX12_makesPatch 9 none 2 := ⟨xg12 26 rfl rfl, xim_X12_makesPatch, xse_X12_makesPatch, xit_X12, xcd_X12_makesPatch, ⟨rfl, by decide +kernel, by decide +kernel, by decide +kernel⟩⟩
theorem xs_X12_738 : XSiteV RX12 738 RX12 yX12_patches cX12_patches 5 (some .boolean) 4 := ⟨xg12 30 rfl rfl, xim_X12_patches, xse_X12_patches, xit_X12, xcd_X12_patches, ⟨rfl, by decide +kernel, by decide +kernel, by decide +kernel⟩⟩
theorem xs_X12_729 : XSiteV RX12 729 RX12 yX12_patchRows cX12_patchRows 10 none 4 := ⟨xg12 34 rfl rfl, xim_X12_patchRows, xse_X12_patchRows, xit_X12, xcd_X12_patchRows, ⟨rfl, by decide +kernel, by decide +kernel, by decide +kernel⟩⟩
theorem xs_X12_720 : XSiteV RX12 720 RX12 yX12_pathOfNode cX12_pathOfNode 4 none 2 := ⟨xg12 38 rfl rfl, xim_X12_pathOfNode, xse_X12_pathOfNode, xit_X12, xcd_X12_pathOfNode, ⟨rfl, by decide +kernel, by decide +kernel, by decide +kernel⟩⟩
theorem xs_X12_723 : XSiteV RX12 723 RX12 yX12_ordered cX12_ordered 9 none 4 := ⟨xg12 42 rfl rfl, xim_X12_ordered, xse_X12_ordered, xit_X12, xcd_X12_ordered, ⟨rfl, by decide +kernel, by decide +kernel, by decide +kernel⟩⟩
theorem xs_X12_717 : XSiteV RX12 717 RX12 yX12_named cX12_named 5 none 3 := ⟨xg12 46 rfl rfl, xim_X12_named, xse_X12_named, xit_X12, xcd_X12_named, ⟨rfl, by decide +kernel, by decide +kernel, by decide +kernel⟩⟩
theorem xs_X12_726 : XSiteV RX12 726 RX12 yX12_addsPlace cX12_addsPlace 3 none 1 := ⟨xg12 50 rfl rfl, xim_X12_addsPlace, xse_X12_addsPlace, xit_X12, xcd_X12_addsPlace, ⟨rfl, by decide +kernel, by decide +kernel, by decide +kernel⟩⟩
theorem xs_X12_741 : XSiteV RX12 741 RX12 yX12_removesKeys cX12_removesKeys 7 none 4 := ⟨xg12 54 rfl rfl, xim_X12_removesKeys, xse_X12_removesKeys, xit_X12, xcd_X12_removesKeys, ⟨rfl, by decide +kernel, by decide +kernel, by decide +kernel⟩⟩
theorem xs_X12_732 : XSiteV RX12 732 RX12 yX12_childLike cX12_childLike 7 (some .int) 4 := ⟨xg12 58 rfl rfl, xim_X12_childLike, xse_X12_childLike, xit_X12, xcd_X12_childLike, ⟨rfl, by decide +kernel, by decide +kernel, by decide +kernel⟩⟩
theorem xs_X12_744 : XSiteV RX12 744 RX12 yX12_addsKeys cX12_addsKeys 7 none 4 := ⟨xg12 62 rfl rfl, xim_X12_addsKeys, xse_X12_addsKeys, xit_X12, xcd_X12_addsKeys, ⟨rfl, by decide +kernel, by decide +kernel, by decide +kernel⟩⟩
theorem xs_X12_735 : XSiteV RX12 735 RX12 yX12_addsStep cX12_addsStep 4 none 2 := ⟨xg12 66 rfl rfl, xim_X12_addsStep, xse_X12_addsStep, xit_X12, xcd_X12_addsStep, ⟨rfl, by decide +kernel, by decide +kernel, by decide +kernel⟩⟩
theorem xs_L_201 : XSiteV RL 201 RX12 yX12_turn cX12_turn 7 (some .int) 2 := ⟨xg12 70 rfl rfl, xim_X12_turn, xse_X12_turn, xit_X12, xcd_X12_turn, ⟨rfl, by decide +kernel, by decide +kernel, by decide +kernel⟩⟩
theorem xs_X12_753 : XSiteV RX12 753 RX12 yX12_undoes cX12_undoes 5 none 2 := ⟨xg12 74 rfl rfl, xim_X12_undoes, xse_X12_undoes, xit_X12, xcd_X12_undoes, ⟨rfl, by decide +kernel, by decide +kernel, by decide +kernel⟩⟩
theorem xs_X12_750 : XSiteV RX12 750 RX12 yX12_undoesPut cX12_undoesPut 5 none 1 := ⟨xg12 78 rfl rfl, xim_X12_undoesPut, xse_X12_undoesPut, xit_X12, xcd_X12_undoesPut, ⟨rfl, by decide +kernel, by decide +kernel, by decide +kernel⟩⟩
theorem xs_L_204 : XSiteV RL 204 RX12 yX12_join cX12_join 5 (some .int) 3 := ⟨xg12 82 rfl rfl, xim_X12_join, xse_X12_join, xit_X12, xcd_X12_join, ⟨rfl, by decide +kernel, by decide +kernel, by decide +kernel⟩⟩
theorem xs_X12_787 : XSiteV RX12 787 RX12 yX12_joins cX12_joins 11 none 0 := ⟨xg12 86 rfl rfl, xim_X12_joins, xse_X12_joins, xit_X12, xcd_X12_joins, ⟨rfl, by decide +kernel, by decide +kernel, by decide +kernel⟩⟩
theorem xs_X12_771 : XSiteV RX12 771 RX12 yX12_joinsOne cX12_joinsOne 9 (some .int) 4 := ⟨xg12 90 rfl rfl, xim_X12_joinsOne, xse_X12_joinsOne, xit_X12, xcd_X12_joinsOne, ⟨rfl, by decide +kernel, by decide +kernel, by decide +kernel⟩⟩
theorem xs_X12_762 : XSiteV RX12 762 RX12 yX12_areAlike cX12_areAlike 5 (some .boolean) 4 := ⟨xg12 94 rfl rfl, xim_X12_areAlike, xse_X12_areAlike, xit_X12, xcd_X12_areAlike, ⟨rfl, by decide +kernel, by decide +kernel, by decide +kernel⟩⟩
theorem xs_X12_775 : XSiteV RX12 775 RX12 yX12_goesInto cX12_goesInto 5 none 4 := ⟨xg12 98 rfl rfl, xim_X12_goesInto, xse_X12_goesInto, xit_X12, xcd_X12_goesInto, ⟨rfl, by decide +kernel, by decide +kernel, by decide +kernel⟩⟩
theorem xs_X12_778 : XSiteV RX12 778 RX12 yX12_mapOf cX12_mapOf 3 (some .int) 2 := ⟨xg12 102 rfl rfl, xim_X12_mapOf, xse_X12_mapOf, xit_X12, xcd_X12_mapOf, ⟨rfl, by decide +kernel, by decide +kernel, by decide +kernel⟩⟩
theorem xs_X12_781 : XSiteV RX12 781 RX12 yX12_docOf cX12_docOf 2 (some .int) 1 := ⟨xg12 106 rfl rfl, xim_X12_docOf, xse_X12_docOf, xit_X12, xcd_X12_docOf, ⟨rfl, by decide +kernel, by decide +kernel, by decide +kernel⟩⟩
theorem xs_X12_784 : XSiteV RX12 784 RX12 yX12_addsWord cX12_addsWord 3 none 0 := ⟨xg12 110 rfl rfl, xim_X12_addsWord, xse_X12_addsWord, xit_X12, xcd_X12_addsWord, ⟨rfl, by decide +kernel, by decide +kernel, by decide +kernel⟩⟩
theorem xs_L_208 : XSiteV RL 208 RX12 yX12_quarrels cX12_quarrels 1 (some .int) 0 := ⟨xg12 114 rfl rfl, xim_X12_quarrels, xse_X12_quarrels, xit_X12, xcd_X12_quarrels, ⟨rfl, by decide +kernel, by decide +kernel, by decide +kernel⟩⟩
theorem xs_L_211 : XSiteV RL 211 RX12 yX12_quarrel cX12_quarrel 3 (some .int) 1 := ⟨xg12 118 rfl rfl, xim_X12_quarrel, xse_X12_quarrel, xit_X12, xcd_X12_quarrel, ⟨rfl, by decide +kernel, by decide +kernel, by decide +kernel⟩⟩
theorem xs_L_214 : XSiteV RL 214 RX12 yX12_standard cX12_standard 1 (some .int) 0 := ⟨xg12 122 rfl rfl, xim_X12_standard, xse_X12_standard, xit_X12, xcd_X12_standard, ⟨rfl, by decide +kernel, by decide +kernel, by decide +kernel⟩⟩
theorem xs_L_217 : XSiteV RL 217 RX12 yX12_check cX12_check 4 (some .int) 2 := ⟨xg12 126 rfl rfl, xim_X12_check, xse_X12_check, xit_X12, xcd_X12_check, ⟨rfl, by decide +kernel, by decide +kernel, by decide +kernel⟩⟩
theorem xs_X12_849 : XSiteV RX12 849 RX12 yX12_asksWhole cX12_asksWhole 4 none 3 := ⟨xg12 131 rfl rfl, xim_X12_asksWhole, xse_X12_asksWhole, xit_X12, xcd_X12_asksWhole, ⟨rfl, by decide +kernel, by decide +kernel, by decide +kernel⟩⟩
theorem xs_X12_820 : XSiteV RX12 820 RX12 yX12_asksOf cX12_asksOf 3 none 2 := ⟨xg12 135 rfl rfl, xim_X12_asksOf, xse_X12_asksOf, xit_X12, xcd_X12_asksOf, ⟨rfl, by decide +kernel, by decide +kernel, by decide +kernel⟩⟩
theorem xs_X12_842 : XSiteV RX12 842 RX12 yX12_asksMore cX12_asksMore 4 (some .boolean) 1 := ⟨xg12 139 rfl rfl, xim_X12_asksMore, xse_X12_asksMore, xit_X12, xcd_X12_asksMore, ⟨rfl, by decide +kernel, by decide +kernel, by decide +kernel⟩⟩
theorem xs_X12_831 : XSiteV RX12 831 RX12 yX12_hears cX12_hears 3 none 1 := ⟨xg12 143 rfl rfl, xim_X12_hears, xse_X12_hears, xit_X12, xcd_X12_hears, ⟨rfl, by decide +kernel, by decide +kernel, by decide +kernel⟩⟩
theorem xs_X12_817 : XSiteV RX12 817 RX12 yX12_complains cX12_complains 3 none 2 := ⟨xg12 147 rfl rfl, xim_X12_complains, xse_X12_complains, xit_X12, xcd_X12_complains, ⟨rfl, by decide +kernel, by decide +kernel, by decide +kernel⟩⟩
theorem xs_X12_834 : XSiteV RX12 834 RX12 yX12_says_ cX12_says_ 8 none 3 := ⟨xg12 151 rfl rfl, xim_X12_says_, xse_X12_says_, xit_X12, xcd_X12_says_, ⟨rfl, by decide +kernel, by decide +kernel, by decide +kernel⟩⟩
theorem xs_X12_808 : XSiteV RX12 808 RX12 yX12_isKind cX12_isKind 5 (some .boolean) 2 := ⟨xg12 155 rfl rfl, xim_X12_isKind, xse_X12_isKind, xit_X12, xcd_X12_isKind, ⟨rfl, by decide +kernel, by decide +kernel, by decide +kernel⟩⟩
theorem xs_X12_811 : XSiteV RX12 811 RX12 yX12_beside cX12_beside 5 (some .int) 2 := ⟨xg12 159 rfl rfl, xim_X12_beside, xse_X12_beside, xit_X12, xcd_X12_beside, ⟨rfl, by decide +kernel, by decide +kernel, by decide +kernel⟩⟩
theorem xs_X12_814 : XSiteV RX12 814 RX12 yX12_wordOfText cX12_wordOfText 4 none 2 := ⟨xg12 163 rfl rfl, xim_X12_wordOfText, xse_X12_wordOfText, xit_X12, xcd_X12_wordOfText, ⟨rfl, by decide +kernel, by decide +kernel, by decide +kernel⟩⟩
theorem xs_X12_836 : XSiteV RX12 836 RX12 yX12_asksRef cX12_asksRef 7 (some .boolean) 3 := ⟨xg12 167 rfl rfl, xim_X12_asksRef, xse_X12_asksRef, xit_X12, xcd_X12_asksRef, ⟨rfl, by decide +kernel, by decide +kernel, by decide +kernel⟩⟩
theorem xs_X12_839 : XSiteV RX12 839 RX12 yX12_asksNext cX12_asksNext 11 (some .boolean) 4 := ⟨xg12 172 rfl rfl, xim_X12_asksNext, xse_X12_asksNext, xit_X12, xcd_X12_asksNext, ⟨rfl, by decide +kernel, by decide +kernel, by decide +kernel⟩⟩
theorem xs_L_220 : XSiteV RL 220 RX12 yX12_complaint cX12_complaint 3 (some .int) 2 := ⟨xg12 176 rfl rfl, xim_X12_complaint, xse_X12_complaint, xit_X12, xcd_X12_complaint, ⟨rfl, by decide +kernel, by decide +kernel, by decide +kernel⟩⟩
theorem xs_L_223 : XSiteV RL 223 RX12 yX12_columns cX12_columns 12 (some .int) 1 := ⟨xg12 180 rfl rfl, xim_X12_columns, xse_X12_columns, xit_X12, xcd_X12_columns, ⟨rfl, by decide +kernel, by decide +kernel, by decide +kernel⟩⟩
theorem xs_X12_855 : XSiteV RX12 855 RX12 yX12_areAll cX12_areAll 5 (some .boolean) 2 := ⟨xg12 184 rfl rfl, xim_X12_areAll, xse_X12_areAll, xit_X12, xcd_X12_areAll, ⟨rfl, by decide +kernel, by decide +kernel, by decide +kernel⟩⟩
theorem xs_X12_858 : XSiteV RX12 858 RX12 yX12_isNewKey cX12_isNewKey 5 (some .boolean) 3 := ⟨xg12 188 rfl rfl, xim_X12_isNewKey, xse_X12_isNewKey, xit_X12, xcd_X12_isNewKey, ⟨rfl, by decide +kernel, by decide +kernel, by decide +kernel⟩⟩
theorem xs_L_226 : XSiteV RL 226 RX12 yX12_rows cX12_rows 10 (some .int) 1 := ⟨xg12 192 rfl rfl, xim_X12_rows, xse_X12_rows, xit_X12, xcd_X12_rows, ⟨rfl, by decide +kernel, by decide +kernel, by decide +kernel⟩⟩
theorem xs_L_229 : XSiteV RL 229 RX12 yX12_grow cX12_grow 3 (some .int) 2 := ⟨xg12 196 rfl rfl, xim_X12_grow, xse_X12_grow, xit_X12, xcd_X12_grow, ⟨rfl, by decide +kernel, by decide +kernel, by decide +kernel⟩⟩
theorem xs_X12_872 : XSiteV RX12 872 RX12 yX12_grows cX12_grows 5 none 2 := ⟨xg12 201 rfl rfl, xim_X12_grows, xse_X12_grows, xit_X12, xcd_X12_grows, ⟨rfl, by decide +kernel, by decide +kernel, by decide +kernel⟩⟩
theorem xs_X12_868 : XSiteV RX12 868 RX12 yX12_drawsOne cX12_drawsOne 10 (some .int) 3 := ⟨xg12 205 rfl rfl, xim_X12_drawsOne, xse_X12_drawsOne, xit_X12, xcd_X12_drawsOne, ⟨rfl, by decide +kernel, by decide +kernel, by decide +kernel⟩⟩
theorem xs_X12_865 : XSiteV RX12 865 RX12 yX12_draw cX12_draw 2 (some .int) 1 := ⟨xg12 209 rfl rfl, xim_X12_draw, xse_X12_draw, xit_X12, xcd_X12_draw, ⟨rfl, by decide +kernel, by decide +kernel, by decide +kernel⟩⟩
theorem xs_L_232 : XSiteV RL 232 RX12 yX12_vary cX12_vary 4 (some .int) 2 := ⟨xg12 214 rfl rfl, xim_X12_vary, xse_X12_vary, xit_X12, xcd_X12_vary, ⟨rfl, by decide +kernel, by decide +kernel, by decide +kernel⟩⟩
theorem xs_L_235 : XSiteV RL 235 RX12 yX12_sum cX12_sum 4 (some .int) 1 := ⟨xg12 218 rfl rfl, xim_X12_sum, xse_X12_sum, xit_X12, xcd_X12_sum, ⟨rfl, by decide +kernel, by decide +kernel, by decide +kernel⟩⟩
theorem xs_L_238 : XSiteV RL 238 RX12 yX12_isSound cX12_isSound 2 (some .boolean) 1 := ⟨xg12 222 rfl rfl, xim_X12_isSound, xse_X12_isSound, xit_X12, xcd_X12_isSound, ⟨rfl, by decide +kernel, by decide +kernel, by decide +kernel⟩⟩
theorem xfl_X9_15 : Cond.fieldLink RX9 15 "Treeletter$Sheet" "signs" "[C" ∈ xg := xg1 43 rfl rfl
theorem xf_X9_15 : XFld RX9 15 8 0 := ⟨_, _, _, _, xk_X9, by decide, xfl_X9_15⟩
theorem xp_X9_15  (x : Nat) : XPut RX9 "<init>" 15 8 0 (.ref x) := ⟨_, _, _, _, xk_X9, by decide, xfl_X9_15, rfl, rfl, Or.inr ⟨rfl, rfl, rfl⟩⟩
theorem xfl_X9_21 : Cond.fieldLink RX9 21 "Treeletter$Sheet" "length" "I" ∈ xg := xg1 44 rfl rfl
theorem xf_X9_21 : XFld RX9 21 8 1 := ⟨_, _, _, _, xk_X9, by decide, xfl_X9_21⟩
theorem xp_X9_21 {nm : String} (x : Int32) : XPut RX9 nm 21 8 1 (.int x) := ⟨_, _, _, _, xk_X9, by decide, xfl_X9_21, rfl, rfl, Or.inl rfl⟩
theorem xfl_X10_9 : Cond.fieldLink RX10 9 "Treeletter$Tree" "kinds" "[I" ∈ xg := xg1 59 rfl rfl
theorem xf_X10_9 : XFld RX10 9 9 0 := ⟨_, _, _, _, xk_X10, by decide, xfl_X10_9⟩
theorem xp_X10_9  (x : Nat) : XPut RX10 "<init>" 9 9 0 (.ref x) := ⟨_, _, _, _, xk_X10, by decide, xfl_X10_9, rfl, rfl, Or.inr ⟨rfl, rfl, rfl⟩⟩
theorem xfl_X10_15 : Cond.fieldLink RX10 15 "Treeletter$Tree" "sizes" "[I" ∈ xg := xg1 60 rfl rfl
theorem xf_X10_15 : XFld RX10 15 9 1 := ⟨_, _, _, _, xk_X10, by decide, xfl_X10_15⟩
theorem xp_X10_15  (x : Nat) : XPut RX10 "<init>" 15 9 1 (.ref x) := ⟨_, _, _, _, xk_X10, by decide, xfl_X10_15, rfl, rfl, Or.inr ⟨rfl, rfl, rfl⟩⟩
theorem xfl_X10_18 : Cond.fieldLink RX10 18 "Treeletter$Tree" "powers" "[I" ∈ xg := xg1 61 rfl rfl
theorem xf_X10_18 : XFld RX10 18 9 2 := ⟨_, _, _, _, xk_X10, by decide, xfl_X10_18⟩
theorem xp_X10_18  (x : Nat) : XPut RX10 "<init>" 18 9 2 (.ref x) := ⟨_, _, _, _, xk_X10, by decide, xfl_X10_18, rfl, rfl, Or.inr ⟨rfl, rfl, rfl⟩⟩
theorem xfl_X10_21 : Cond.fieldLink RX10 21 "Treeletter$Tree" "lengths" "[I" ∈ xg := xg1 62 rfl rfl
theorem xf_X10_21 : XFld RX10 21 9 3 := ⟨_, _, _, _, xk_X10, by decide, xfl_X10_21⟩
theorem xp_X10_21  (x : Nat) : XPut RX10 "<init>" 21 9 3 (.ref x) := ⟨_, _, _, _, xk_X10, by decide, xfl_X10_21, rfl, rfl, Or.inr ⟨rfl, rfl, rfl⟩⟩
theorem xfl_X10_24 : Cond.fieldLink RX10 24 "Treeletter$Tree" "signs" "[C" ∈ xg := xg1 63 rfl rfl
theorem xf_X10_24 : XFld RX10 24 9 4 := ⟨_, _, _, _, xk_X10, by decide, xfl_X10_24⟩
theorem xp_X10_24  (x : Nat) : XPut RX10 "<init>" 24 9 4 (.ref x) := ⟨_, _, _, _, xk_X10, by decide, xfl_X10_24, rfl, rfl, Or.inr ⟨rfl, rfl, rfl⟩⟩
theorem xfl_X10_28 : Cond.fieldLink RX10 28 "Treeletter$Tree" "keyLengths" "[I" ∈ xg := xg1 64 rfl rfl
theorem xf_X10_28 : XFld RX10 28 9 5 := ⟨_, _, _, _, xk_X10, by decide, xfl_X10_28⟩
theorem xp_X10_28  (x : Nat) : XPut RX10 "<init>" 28 9 5 (.ref x) := ⟨_, _, _, _, xk_X10, by decide, xfl_X10_28, rfl, rfl, Or.inr ⟨rfl, rfl, rfl⟩⟩
theorem xfl_X10_31 : Cond.fieldLink RX10 31 "Treeletter$Tree" "keys" "[C" ∈ xg := xg1 65 rfl rfl
theorem xf_X10_31 : XFld RX10 31 9 6 := ⟨_, _, _, _, xk_X10, by decide, xfl_X10_31⟩
theorem xp_X10_31  (x : Nat) : XPut RX10 "<init>" 31 9 6 (.ref x) := ⟨_, _, _, _, xk_X10, by decide, xfl_X10_31, rfl, rfl, Or.inr ⟨rfl, rfl, rfl⟩⟩
theorem xfl_X10_34 : Cond.fieldLink RX10 34 "Treeletter$Tree" "count" "I" ∈ xg := xg1 66 rfl rfl
theorem xf_X10_34 : XFld RX10 34 9 7 := ⟨_, _, _, _, xk_X10, by decide, xfl_X10_34⟩
theorem xp_X10_34 {nm : String} (x : Int32) : XPut RX10 nm 34 9 7 (.int x) := ⟨_, _, _, _, xk_X10, by decide, xfl_X10_34, rfl, rfl, Or.inl rfl⟩
theorem xfl_X10_38 : Cond.fieldLink RX10 38 "Treeletter$Tree" "overfull" "Z" ∈ xg := xg1 67 rfl rfl
theorem xf_X10_38 : XFld RX10 38 9 8 := ⟨_, _, _, _, xk_X10, by decide, xfl_X10_38⟩
theorem xp_X10_38 {nm : String} {x : Int32} (hx : x = 0 ∨ x = 1) : XPut RX10 nm 38 9 8 (.int x) := ⟨_, _, _, _, xk_X10, by decide, xfl_X10_38, by rcases hx with rfl | rfl <;> rfl, by rcases hx with rfl | rfl <;> rfl, Or.inl rfl⟩
theorem xfl_X6_12 : Cond.fieldLink RX6 12 "Treeletter$Reader" "made" "LTreeletter$Tree;" ∈ xg := xg1 98 rfl rfl
theorem xf_X6_12 : XFld RX6 12 6 0 := ⟨_, _, _, _, xk_X6, by decide, xfl_X6_12⟩
theorem xp_X6_12  (x : Nat) : XPut RX6 "<init>" 12 6 0 (.ref x) := ⟨_, _, _, _, xk_X6, by decide, xfl_X6_12, rfl, rfl, Or.inr ⟨rfl, rfl, rfl⟩⟩
theorem xfl_X6_18 : Cond.fieldLink RX6 18 "Treeletter$Reader" "spare" "LTreeletter$Tree;" ∈ xg := xg1 99 rfl rfl
theorem xf_X6_18 : XFld RX6 18 6 1 := ⟨_, _, _, _, xk_X6, by decide, xfl_X6_18⟩
theorem xp_X6_18  (x : Nat) : XPut RX6 "<init>" 18 6 1 (.ref x) := ⟨_, _, _, _, xk_X6, by decide, xfl_X6_18, rfl, rfl, Or.inr ⟨rfl, rfl, rfl⟩⟩
theorem xfl_X6_26 : Cond.fieldLink RX6 26 "Treeletter$Reader" "key" "LTreeletter$Sheet;" ∈ xg := xg1 100 rfl rfl
theorem xf_X6_26 : XFld RX6 26 6 2 := ⟨_, _, _, _, xk_X6, by decide, xfl_X6_26⟩
theorem xp_X6_26  (x : Nat) : XPut RX6 "<init>" 26 6 2 (.ref x) := ⟨_, _, _, _, xk_X6, by decide, xfl_X6_26, rfl, rfl, Or.inr ⟨rfl, rfl, rfl⟩⟩
theorem xfl_X6_30 : Cond.fieldLink RX6 30 "Treeletter$Reader" "signs" "LTreeletter$Sheet;" ∈ xg := xg1 101 rfl rfl
theorem xf_X6_30 : XFld RX6 30 6 3 := ⟨_, _, _, _, xk_X6, by decide, xfl_X6_30⟩
theorem xp_X6_30  (x : Nat) : XPut RX6 "<init>" 30 6 3 (.ref x) := ⟨_, _, _, _, xk_X6, by decide, xfl_X6_30, rfl, rfl, Or.inr ⟨rfl, rfl, rfl⟩⟩
theorem xfl_X6_33 : Cond.fieldLink RX6 33 "Treeletter$Reader" "figures" "LTreeletter$Sheet;" ∈ xg := xg1 102 rfl rfl
theorem xf_X6_33 : XFld RX6 33 6 4 := ⟨_, _, _, _, xk_X6, by decide, xfl_X6_33⟩
theorem xp_X6_33  (x : Nat) : XPut RX6 "<init>" 33 6 4 (.ref x) := ⟨_, _, _, _, xk_X6, by decide, xfl_X6_33, rfl, rfl, Or.inr ⟨rfl, rfl, rfl⟩⟩
theorem xfl_X6_36 : Cond.fieldLink RX6 36 "Treeletter$Reader" "source" "LTreeletter$Sheet;" ∈ xg := xg1 103 rfl rfl
theorem xf_X6_36 : XFld RX6 36 6 5 := ⟨_, _, _, _, xk_X6, by decide, xfl_X6_36⟩
theorem xp_X6_36 {nm : String} (x : Nat) : XPut RX6 nm 36 6 5 (.ref x) := ⟨_, _, _, _, xk_X6, by decide, xfl_X6_36, rfl, rfl, Or.inl rfl⟩
theorem xfl_X6_39 : Cond.fieldLink RX6 39 "Treeletter$Reader" "rule" "I" ∈ xg := xg1 104 rfl rfl
theorem xf_X6_39 : XFld RX6 39 6 6 := ⟨_, _, _, _, xk_X6, by decide, xfl_X6_39⟩
theorem xp_X6_39 {nm : String} (x : Int32) : XPut RX6 nm 39 6 6 (.int x) := ⟨_, _, _, _, xk_X6, by decide, xfl_X6_39, rfl, rfl, Or.inl rfl⟩
theorem xfl_X6_43 : Cond.fieldLink RX6 43 "Treeletter$Reader" "place" "I" ∈ xg := xg1 105 rfl rfl
theorem xf_X6_43 : XFld RX6 43 6 7 := ⟨_, _, _, _, xk_X6, by decide, xfl_X6_43⟩
theorem xp_X6_43 {nm : String} (x : Int32) : XPut RX6 nm 43 6 7 (.int x) := ⟨_, _, _, _, xk_X6, by decide, xfl_X6_43, rfl, rfl, Or.inl rfl⟩
theorem xfl_X6_46 : Cond.fieldLink RX6 46 "Treeletter$Reader" "fault" "I" ∈ xg := xg1 106 rfl rfl
theorem xf_X6_46 : XFld RX6 46 6 8 := ⟨_, _, _, _, xk_X6, by decide, xfl_X6_46⟩
theorem xp_X6_46 {nm : String} (x : Int32) : XPut RX6 nm 46 6 8 (.int x) := ⟨_, _, _, _, xk_X6, by decide, xfl_X6_46, rfl, rfl, Or.inl rfl⟩
theorem xfl_X6_49 : Cond.fieldLink RX6 49 "Treeletter$Reader" "begun" "I" ∈ xg := xg1 107 rfl rfl
theorem xf_X6_49 : XFld RX6 49 6 9 := ⟨_, _, _, _, xk_X6, by decide, xfl_X6_49⟩
theorem xp_X6_49 {nm : String} (x : Int32) : XPut RX6 nm 49 6 9 (.int x) := ⟨_, _, _, _, xk_X6, by decide, xfl_X6_49, rfl, rfl, Or.inl rfl⟩
theorem xfl_X7_14 : Cond.fieldLink RX7 14 "Treeletter$Route" "signs" "LTreeletter$Sheet;" ∈ xg := xg1 137 rfl rfl
theorem xf_X7_14 : XFld RX7 14 7 0 := ⟨_, _, _, _, xk_X7, by decide, xfl_X7_14⟩
theorem xp_X7_14  (x : Nat) : XPut RX7 "<init>" 14 7 0 (.ref x) := ⟨_, _, _, _, xk_X7, by decide, xfl_X7_14, rfl, rfl, Or.inr ⟨rfl, rfl, rfl⟩⟩
theorem xfl_X7_20 : Cond.fieldLink RX7 20 "Treeletter$Route" "word" "LTreeletter$Sheet;" ∈ xg := xg1 138 rfl rfl
theorem xf_X7_20 : XFld RX7 20 7 1 := ⟨_, _, _, _, xk_X7, by decide, xfl_X7_20⟩
theorem xp_X7_20  (x : Nat) : XPut RX7 "<init>" 20 7 1 (.ref x) := ⟨_, _, _, _, xk_X7, by decide, xfl_X7_20, rfl, rfl, Or.inr ⟨rfl, rfl, rfl⟩⟩
theorem xfl_X7_23 : Cond.fieldLink RX7 23 "Treeletter$Route" "starts" "[I" ∈ xg := xg1 139 rfl rfl
theorem xf_X7_23 : XFld RX7 23 7 2 := ⟨_, _, _, _, xk_X7, by decide, xfl_X7_23⟩
theorem xp_X7_23  (x : Nat) : XPut RX7 "<init>" 23 7 2 (.ref x) := ⟨_, _, _, _, xk_X7, by decide, xfl_X7_23, rfl, rfl, Or.inr ⟨rfl, rfl, rfl⟩⟩
theorem xfl_X7_27 : Cond.fieldLink RX7 27 "Treeletter$Route" "steps" "I" ∈ xg := xg1 140 rfl rfl
theorem xf_X7_27 : XFld RX7 27 7 3 := ⟨_, _, _, _, xk_X7, by decide, xfl_X7_27⟩
theorem xp_X7_27 {nm : String} (x : Int32) : XPut RX7 nm 27 7 3 (.int x) := ⟨_, _, _, _, xk_X7, by decide, xfl_X7_27, rfl, rfl, Or.inl rfl⟩
theorem xfl_X2_14 : Cond.fieldLink RX2 14 "Treeletter$Finder" "word" "LTreeletter$Sheet;" ∈ xg := xg1 159 rfl rfl
theorem xf_X2_14 : XFld RX2 14 2 0 := ⟨_, _, _, _, xk_X2, by decide, xfl_X2_14⟩
theorem xp_X2_14  (x : Nat) : XPut RX2 "<init>" 14 2 0 (.ref x) := ⟨_, _, _, _, xk_X2, by decide, xfl_X2_14, rfl, rfl, Or.inr ⟨rfl, rfl, rfl⟩⟩
theorem xfl_X2_20 : Cond.fieldLink RX2 20 "Treeletter$Finder" "name" "LTreeletter$Sheet;" ∈ xg := xg1 160 rfl rfl
theorem xf_X2_20 : XFld RX2 20 2 1 := ⟨_, _, _, _, xk_X2, by decide, xfl_X2_20⟩
theorem xp_X2_20  (x : Nat) : XPut RX2 "<init>" 20 2 1 (.ref x) := ⟨_, _, _, _, xk_X2, by decide, xfl_X2_20, rfl, rfl, Or.inr ⟨rfl, rfl, rfl⟩⟩
theorem xfl_X2_24 : Cond.fieldLink RX2 24 "Treeletter$Finder" "writing" "LTreeletter$Sheet;" ∈ xg := xg1 161 rfl rfl
theorem xf_X2_24 : XFld RX2 24 2 2 := ⟨_, _, _, _, xk_X2, by decide, xfl_X2_24⟩
theorem xp_X2_24  (x : Nat) : XPut RX2 "<init>" 24 2 2 (.ref x) := ⟨_, _, _, _, xk_X2, by decide, xfl_X2_24, rfl, rfl, Or.inr ⟨rfl, rfl, rfl⟩⟩
theorem xfl_X2_27 : Cond.fieldLink RX2 27 "Treeletter$Finder" "finds" "[I" ∈ xg := xg1 162 rfl rfl
theorem xf_X2_27 : XFld RX2 27 2 3 := ⟨_, _, _, _, xk_X2, by decide, xfl_X2_27⟩
theorem xp_X2_27  (x : Nat) : XPut RX2 "<init>" 27 2 3 (.ref x) := ⟨_, _, _, _, xk_X2, by decide, xfl_X2_27, rfl, rfl, Or.inr ⟨rfl, rfl, rfl⟩⟩
theorem xfl_X2_31 : Cond.fieldLink RX2 31 "Treeletter$Finder" "before" "[I" ∈ xg := xg1 163 rfl rfl
theorem xf_X2_31 : XFld RX2 31 2 4 := ⟨_, _, _, _, xk_X2, by decide, xfl_X2_31⟩
theorem xp_X2_31  (x : Nat) : XPut RX2 "<init>" 31 2 4 (.ref x) := ⟨_, _, _, _, xk_X2, by decide, xfl_X2_31, rfl, rfl, Or.inr ⟨rfl, rfl, rfl⟩⟩
theorem xfl_X2_34 : Cond.fieldLink RX2 34 "Treeletter$Finder" "met" "[Z" ∈ xg := xg1 164 rfl rfl
theorem xf_X2_34 : XFld RX2 34 2 5 := ⟨_, _, _, _, xk_X2, by decide, xfl_X2_34⟩
theorem xp_X2_34  (x : Nat) : XPut RX2 "<init>" 34 2 5 (.ref x) := ⟨_, _, _, _, xk_X2, by decide, xfl_X2_34, rfl, rfl, Or.inr ⟨rfl, rfl, rfl⟩⟩
theorem xfl_X2_38 : Cond.fieldLink RX2 38 "Treeletter$Finder" "count" "I" ∈ xg := xg1 165 rfl rfl
theorem xf_X2_38 : XFld RX2 38 2 6 := ⟨_, _, _, _, xk_X2, by decide, xfl_X2_38⟩
theorem xp_X2_38 {nm : String} (x : Int32) : XPut RX2 nm 38 2 6 (.int x) := ⟨_, _, _, _, xk_X2, by decide, xfl_X2_38, rfl, rfl, Or.inl rfl⟩
theorem xfl_X5_14 : Cond.fieldLink RX5 14 "Treeletter$Orders" "path" "LTreeletter$Sheet;" ∈ xg := xg1 192 rfl rfl
theorem xf_X5_14 : XFld RX5 14 5 0 := ⟨_, _, _, _, xk_X5, by decide, xfl_X5_14⟩
theorem xp_X5_14  (x : Nat) : XPut RX5 "<init>" 14 5 0 (.ref x) := ⟨_, _, _, _, xk_X5, by decide, xfl_X5_14, rfl, rfl, Or.inr ⟨rfl, rfl, rfl⟩⟩
theorem xfl_X5_20 : Cond.fieldLink RX5 20 "Treeletter$Orders" "equals" "[Z" ∈ xg := xg1 193 rfl rfl
theorem xf_X5_20 : XFld RX5 20 5 1 := ⟨_, _, _, _, xk_X5, by decide, xfl_X5_20⟩
theorem xp_X5_20  (x : Nat) : XPut RX5 "<init>" 20 5 1 (.ref x) := ⟨_, _, _, _, xk_X5, by decide, xfl_X5_20, rfl, rfl, Or.inr ⟨rfl, rfl, rfl⟩⟩
theorem xfl_X5_24 : Cond.fieldLink RX5 24 "Treeletter$Orders" "pairs" "[I" ∈ xg := xg1 194 rfl rfl
theorem xf_X5_24 : XFld RX5 24 5 2 := ⟨_, _, _, _, xk_X5, by decide, xfl_X5_24⟩
theorem xp_X5_24  (x : Nat) : XPut RX5 "<init>" 24 5 2 (.ref x) := ⟨_, _, _, _, xk_X5, by decide, xfl_X5_24, rfl, rfl, Or.inr ⟨rfl, rfl, rfl⟩⟩
theorem xfl_X5_28 : Cond.fieldLink RX5 28 "Treeletter$Orders" "ones" "[I" ∈ xg := xg1 195 rfl rfl
theorem xf_X5_28 : XFld RX5 28 5 3 := ⟨_, _, _, _, xk_X5, by decide, xfl_X5_28⟩
theorem xp_X5_28  (x : Nat) : XPut RX5 "<init>" 28 5 3 (.ref x) := ⟨_, _, _, _, xk_X5, by decide, xfl_X5_28, rfl, rfl, Or.inr ⟨rfl, rfl, rfl⟩⟩
theorem xfl_X5_31 : Cond.fieldLink RX5 31 "Treeletter$Orders" "others" "[I" ∈ xg := xg1 196 rfl rfl
theorem xf_X5_31 : XFld RX5 31 5 4 := ⟨_, _, _, _, xk_X5, by decide, xfl_X5_31⟩
theorem xp_X5_31  (x : Nat) : XPut RX5 "<init>" 31 5 4 (.ref x) := ⟨_, _, _, _, xk_X5, by decide, xfl_X5_31, rfl, rfl, Or.inr ⟨rfl, rfl, rfl⟩⟩
theorem xfl_X5_37 : Cond.fieldLink RX5 37 "Treeletter$Orders" "list" "LTreeletter$Tree;" ∈ xg := xg1 197 rfl rfl
theorem xf_X5_37 : XFld RX5 37 5 5 := ⟨_, _, _, _, xk_X5, by decide, xfl_X5_37⟩
theorem xp_X5_37 {nm : String} (x : Nat) : XPut RX5 nm 37 5 5 (.ref x) := ⟨_, _, _, _, xk_X5, by decide, xfl_X5_37, rfl, rfl, Or.inl rfl⟩
theorem xfl_X5_41 : Cond.fieldLink RX5 41 "Treeletter$Orders" "one" "LTreeletter$Tree;" ∈ xg := xg1 198 rfl rfl
theorem xf_X5_41 : XFld RX5 41 5 6 := ⟨_, _, _, _, xk_X5, by decide, xfl_X5_41⟩
theorem xp_X5_41 {nm : String} (x : Nat) : XPut RX5 nm 41 5 6 (.ref x) := ⟨_, _, _, _, xk_X5, by decide, xfl_X5_41, rfl, rfl, Or.inl rfl⟩
theorem xfl_X5_44 : Cond.fieldLink RX5 44 "Treeletter$Orders" "other" "LTreeletter$Tree;" ∈ xg := xg1 199 rfl rfl
theorem xf_X5_44 : XFld RX5 44 5 7 := ⟨_, _, _, _, xk_X5, by decide, xfl_X5_44⟩
theorem xp_X5_44 {nm : String} (x : Nat) : XPut RX5 nm 44 5 7 (.ref x) := ⟨_, _, _, _, xk_X5, by decide, xfl_X5_44, rfl, rfl, Or.inl rfl⟩
theorem xfl_X1_12 : Cond.fieldLink RX1 12 "Treeletter$Editor" "work" "LTreeletter$Tree;" ∈ xg := xg1 229 rfl rfl
theorem xf_X1_12 : XFld RX1 12 1 0 := ⟨_, _, _, _, xk_X1, by decide, xfl_X1_12⟩
theorem xp_X1_12  (x : Nat) : XPut RX1 "<init>" 12 1 0 (.ref x) := ⟨_, _, _, _, xk_X1, by decide, xfl_X1_12, rfl, rfl, Or.inr ⟨rfl, rfl, rfl⟩⟩
theorem xfl_X1_18 : Cond.fieldLink RX1 18 "Treeletter$Editor" "held" "LTreeletter$Tree;" ∈ xg := xg1 230 rfl rfl
theorem xf_X1_18 : XFld RX1 18 1 1 := ⟨_, _, _, _, xk_X1, by decide, xfl_X1_18⟩
theorem xp_X1_18  (x : Nat) : XPut RX1 "<init>" 18 1 1 (.ref x) := ⟨_, _, _, _, xk_X1, by decide, xfl_X1_18, rfl, rfl, Or.inr ⟨rfl, rfl, rfl⟩⟩
theorem xfl_X1_21 : Cond.fieldLink RX1 21 "Treeletter$Editor" "order" "LTreeletter$Tree;" ∈ xg := xg1 231 rfl rfl
theorem xf_X1_21 : XFld RX1 21 1 2 := ⟨_, _, _, _, xk_X1, by decide, xfl_X1_21⟩
theorem xp_X1_21  (x : Nat) : XPut RX1 "<init>" 21 1 2 (.ref x) := ⟨_, _, _, _, xk_X1, by decide, xfl_X1_21, rfl, rfl, Or.inr ⟨rfl, rfl, rfl⟩⟩
theorem xfl_X1_24 : Cond.fieldLink RX1 24 "Treeletter$Editor" "back" "LTreeletter$Tree;" ∈ xg := xg1 232 rfl rfl
theorem xf_X1_24 : XFld RX1 24 1 3 := ⟨_, _, _, _, xk_X1, by decide, xfl_X1_24⟩
theorem xp_X1_24  (x : Nat) : XPut RX1 "<init>" 24 1 3 (.ref x) := ⟨_, _, _, _, xk_X1, by decide, xfl_X1_24, rfl, rfl, Or.inr ⟨rfl, rfl, rfl⟩⟩
theorem xfl_X1_30 : Cond.fieldLink RX1 30 "Treeletter$Editor" "route" "LTreeletter$Route;" ∈ xg := xg1 233 rfl rfl
theorem xf_X1_30 : XFld RX1 30 1 4 := ⟨_, _, _, _, xk_X1, by decide, xfl_X1_30⟩
theorem xp_X1_30  (x : Nat) : XPut RX1 "<init>" 30 1 4 (.ref x) := ⟨_, _, _, _, xk_X1, by decide, xfl_X1_30, rfl, rfl, Or.inr ⟨rfl, rfl, rfl⟩⟩
theorem xfl_X1_39 : Cond.fieldLink RX1 39 "Treeletter$Editor" "word" "LTreeletter$Sheet;" ∈ xg := xg1 234 rfl rfl
theorem xf_X1_39 : XFld RX1 39 1 5 := ⟨_, _, _, _, xk_X1, by decide, xfl_X1_39⟩
theorem xp_X1_39  (x : Nat) : XPut RX1 "<init>" 39 1 5 (.ref x) := ⟨_, _, _, _, xk_X1, by decide, xfl_X1_39, rfl, rfl, Or.inr ⟨rfl, rfl, rfl⟩⟩
theorem xfl_X1_43 : Cond.fieldLink RX1 43 "Treeletter$Editor" "path" "LTreeletter$Sheet;" ∈ xg := xg1 235 rfl rfl
theorem xf_X1_43 : XFld RX1 43 1 6 := ⟨_, _, _, _, xk_X1, by decide, xfl_X1_43⟩
theorem xp_X1_43  (x : Nat) : XPut RX1 "<init>" 43 1 6 (.ref x) := ⟨_, _, _, _, xk_X1, by decide, xfl_X1_43, rfl, rfl, Or.inr ⟨rfl, rfl, rfl⟩⟩
theorem xfl_X1_50 : Cond.fieldLink RX1 50 "Treeletter$Editor" "turning" "Z" ∈ xg := xg1 236 rfl rfl
theorem xf_X1_50 : XFld RX1 50 1 7 := ⟨_, _, _, _, xk_X1, by decide, xfl_X1_50⟩
theorem xp_X1_50 {nm : String} {x : Int32} (hx : x = 0 ∨ x = 1) : XPut RX1 nm 50 1 7 (.int x) := ⟨_, _, _, _, xk_X1, by decide, xfl_X1_50, by rcases hx with rfl | rfl <;> rfl, by rcases hx with rfl | rfl <;> rfl, Or.inl rfl⟩
theorem xfl_X1_69 : Cond.fieldLink RX1 69 "Treeletter$Editor" "owner" "I" ∈ xg := xg1 237 rfl rfl
theorem xf_X1_69 : XFld RX1 69 1 8 := ⟨_, _, _, _, xk_X1, by decide, xfl_X1_69⟩
theorem xp_X1_69 {nm : String} (x : Int32) : XPut RX1 nm 69 1 8 (.int x) := ⟨_, _, _, _, xk_X1, by decide, xfl_X1_69, rfl, rfl, Or.inl rfl⟩
theorem xfl_X1_121 : Cond.fieldLink RX1 121 "Treeletter$Editor" "place" "I" ∈ xg := xg1 238 rfl rfl
theorem xf_X1_121 : XFld RX1 121 1 9 := ⟨_, _, _, _, xk_X1, by decide, xfl_X1_121⟩
theorem xp_X1_121 {nm : String} (x : Int32) : XPut RX1 nm 121 1 9 (.int x) := ⟨_, _, _, _, xk_X1, by decide, xfl_X1_121, rfl, rfl, Or.inl rfl⟩
theorem xfl_X1_86 : Cond.fieldLink RX1 86 "Treeletter$Editor" "at" "I" ∈ xg := xg1 239 rfl rfl
theorem xf_X1_86 : XFld RX1 86 1 10 := ⟨_, _, _, _, xk_X1, by decide, xfl_X1_86⟩
theorem xp_X1_86 {nm : String} (x : Int32) : XPut RX1 nm 86 1 10 (.int x) := ⟨_, _, _, _, xk_X1, by decide, xfl_X1_86, rfl, rfl, Or.inl rfl⟩
theorem xfl_X1_77 : Cond.fieldLink RX1 77 "Treeletter$Editor" "inPlace" "Z" ∈ xg := xg2 0 rfl rfl
theorem xf_X1_77 : XFld RX1 77 1 11 := ⟨_, _, _, _, xk_X1, by decide, xfl_X1_77⟩
theorem xp_X1_77 {nm : String} {x : Int32} (hx : x = 0 ∨ x = 1) : XPut RX1 nm 77 1 11 (.int x) := ⟨_, _, _, _, xk_X1, by decide, xfl_X1_77, by rcases hx with rfl | rfl <;> rfl, by rcases hx with rfl | rfl <;> rfl, Or.inl rfl⟩
theorem xfl_X4_12 : Cond.fieldLink RX4 12 "Treeletter$Joiner" "made" "LTreeletter$Tree;" ∈ xg := xg2 37 rfl rfl
theorem xf_X4_12 : XFld RX4 12 4 0 := ⟨_, _, _, _, xk_X4, by decide, xfl_X4_12⟩
theorem xp_X4_12  (x : Nat) : XPut RX4 "<init>" 12 4 0 (.ref x) := ⟨_, _, _, _, xk_X4, by decide, xfl_X4_12, rfl, rfl, Or.inr ⟨rfl, rfl, rfl⟩⟩
theorem xfl_X4_23 : Cond.fieldLink RX4 23 "Treeletter$Joiner" "path" "LTreeletter$Sheet;" ∈ xg := xg2 38 rfl rfl
theorem xf_X4_23 : XFld RX4 23 4 1 := ⟨_, _, _, _, xk_X4, by decide, xfl_X4_23⟩
theorem xp_X4_23  (x : Nat) : XPut RX4 "<init>" 23 4 1 (.ref x) := ⟨_, _, _, _, xk_X4, by decide, xfl_X4_23, rfl, rfl, Or.inr ⟨rfl, rfl, rfl⟩⟩
theorem xfl_X4_28 : Cond.fieldLink RX4 28 "Treeletter$Joiner" "paths" "LTreeletter$Sheet;" ∈ xg := xg2 39 rfl rfl
theorem xf_X4_28 : XFld RX4 28 4 2 := ⟨_, _, _, _, xk_X4, by decide, xfl_X4_28⟩
theorem xp_X4_28  (x : Nat) : XPut RX4 "<init>" 28 4 2 (.ref x) := ⟨_, _, _, _, xk_X4, by decide, xfl_X4_28, rfl, rfl, Or.inr ⟨rfl, rfl, rfl⟩⟩
theorem xfl_X4_31 : Cond.fieldLink RX4 31 "Treeletter$Joiner" "ends" "[I" ∈ xg := xg2 40 rfl rfl
theorem xf_X4_31 : XFld RX4 31 4 3 := ⟨_, _, _, _, xk_X4, by decide, xfl_X4_31⟩
theorem xp_X4_31  (x : Nat) : XPut RX4 "<init>" 31 4 3 (.ref x) := ⟨_, _, _, _, xk_X4, by decide, xfl_X4_31, rfl, rfl, Or.inr ⟨rfl, rfl, rfl⟩⟩
theorem xfl_X4_35 : Cond.fieldLink RX4 35 "Treeletter$Joiner" "common" "LTreeletter$Tree;" ∈ xg := xg2 41 rfl rfl
theorem xf_X4_35 : XFld RX4 35 4 4 := ⟨_, _, _, _, xk_X4, by decide, xfl_X4_35⟩
theorem xp_X4_35 {nm : String} (x : Nat) : XPut RX4 nm 35 4 4 (.ref x) := ⟨_, _, _, _, xk_X4, by decide, xfl_X4_35, rfl, rfl, Or.inl rfl⟩
theorem xfl_X4_38 : Cond.fieldLink RX4 38 "Treeletter$Joiner" "one" "LTreeletter$Tree;" ∈ xg := xg2 42 rfl rfl
theorem xf_X4_38 : XFld RX4 38 4 5 := ⟨_, _, _, _, xk_X4, by decide, xfl_X4_38⟩
theorem xp_X4_38 {nm : String} (x : Nat) : XPut RX4 nm 38 4 5 (.ref x) := ⟨_, _, _, _, xk_X4, by decide, xfl_X4_38, rfl, rfl, Or.inl rfl⟩
theorem xfl_X4_41 : Cond.fieldLink RX4 41 "Treeletter$Joiner" "other" "LTreeletter$Tree;" ∈ xg := xg2 43 rfl rfl
theorem xf_X4_41 : XFld RX4 41 4 6 := ⟨_, _, _, _, xk_X4, by decide, xfl_X4_41⟩
theorem xp_X4_41 {nm : String} (x : Nat) : XPut RX4 nm 41 4 6 (.ref x) := ⟨_, _, _, _, xk_X4, by decide, xfl_X4_41, rfl, rfl, Or.inl rfl⟩
theorem xfl_X4_44 : Cond.fieldLink RX4 44 "Treeletter$Joiner" "count" "I" ∈ xg := xg2 44 rfl rfl
theorem xf_X4_44 : XFld RX4 44 4 7 := ⟨_, _, _, _, xk_X4, by decide, xfl_X4_44⟩
theorem xp_X4_44 {nm : String} (x : Int32) : XPut RX4 nm 44 4 7 (.int x) := ⟨_, _, _, _, xk_X4, by decide, xfl_X4_44, rfl, rfl, Or.inl rfl⟩
theorem xfl_X4_59 : Cond.fieldLink RX4 59 "Treeletter$Joiner" "quarrelled" "Z" ∈ xg := xg2 45 rfl rfl
theorem xf_X4_59 : XFld RX4 59 4 8 := ⟨_, _, _, _, xk_X4, by decide, xfl_X4_59⟩
theorem xp_X4_59 {nm : String} {x : Int32} (hx : x = 0 ∨ x = 1) : XPut RX4 nm 59 4 8 (.int x) := ⟨_, _, _, _, xk_X4, by decide, xfl_X4_59, by rcases hx with rfl | rfl <;> rfl, by rcases hx with rfl | rfl <;> rfl, Or.inl rfl⟩
theorem xfl_X0_12 : Cond.fieldLink RX0 12 "Treeletter$Checker" "scale" "LTreeletter$Tree;" ∈ xg := xg2 75 rfl rfl
theorem xf_X0_12 : XFld RX0 12 0 0 := ⟨_, _, _, _, xk_X0, by decide, xfl_X0_12⟩
theorem xp_X0_12  (x : Nat) : XPut RX0 "<init>" 12 0 0 (.ref x) := ⟨_, _, _, _, xk_X0, by decide, xfl_X0_12, rfl, rfl, Or.inr ⟨rfl, rfl, rfl⟩⟩
theorem xfl_X0_23 : Cond.fieldLink RX0 23 "Treeletter$Checker" "word" "LTreeletter$Sheet;" ∈ xg := xg2 76 rfl rfl
theorem xf_X0_23 : XFld RX0 23 0 1 := ⟨_, _, _, _, xk_X0, by decide, xfl_X0_23⟩
theorem xp_X0_23  (x : Nat) : XPut RX0 "<init>" 23 0 1 (.ref x) := ⟨_, _, _, _, xk_X0, by decide, xfl_X0_23, rfl, rfl, Or.inr ⟨rfl, rfl, rfl⟩⟩
theorem xfl_X0_27 : Cond.fieldLink RX0 27 "Treeletter$Checker" "figures" "LTreeletter$Sheet;" ∈ xg := xg2 77 rfl rfl
theorem xf_X0_27 : XFld RX0 27 0 2 := ⟨_, _, _, _, xk_X0, by decide, xfl_X0_27⟩
theorem xp_X0_27  (x : Nat) : XPut RX0 "<init>" 27 0 2 (.ref x) := ⟨_, _, _, _, xk_X0, by decide, xfl_X0_27, rfl, rfl, Or.inr ⟨rfl, rfl, rfl⟩⟩
theorem xfl_X0_30 : Cond.fieldLink RX0 30 "Treeletter$Checker" "openTargets" "[I" ∈ xg := xg2 78 rfl rfl
theorem xf_X0_30 : XFld RX0 30 0 3 := ⟨_, _, _, _, xk_X0, by decide, xfl_X0_30⟩
theorem xp_X0_30  (x : Nat) : XPut RX0 "<init>" 30 0 3 (.ref x) := ⟨_, _, _, _, xk_X0, by decide, xfl_X0_30, rfl, rfl, Or.inr ⟨rfl, rfl, rfl⟩⟩
theorem xfl_X0_34 : Cond.fieldLink RX0 34 "Treeletter$Checker" "openNodes" "[I" ∈ xg := xg2 79 rfl rfl
theorem xf_X0_34 : XFld RX0 34 0 4 := ⟨_, _, _, _, xk_X0, by decide, xfl_X0_34⟩
theorem xp_X0_34  (x : Nat) : XPut RX0 "<init>" 34 0 4 (.ref x) := ⟨_, _, _, _, xk_X0, by decide, xfl_X0_34, rfl, rfl, Or.inr ⟨rfl, rfl, rfl⟩⟩
theorem xfl_X0_37 : Cond.fieldLink RX0 37 "Treeletter$Checker" "freshNodes" "[I" ∈ xg := xg2 80 rfl rfl
theorem xf_X0_37 : XFld RX0 37 0 5 := ⟨_, _, _, _, xk_X0, by decide, xfl_X0_37⟩
theorem xp_X0_37  (x : Nat) : XPut RX0 "<init>" 37 0 5 (.ref x) := ⟨_, _, _, _, xk_X0, by decide, xfl_X0_37, rfl, rfl, Or.inr ⟨rfl, rfl, rfl⟩⟩
theorem xfl_X0_40 : Cond.fieldLink RX0 40 "Treeletter$Checker" "freshWords" "[I" ∈ xg := xg2 81 rfl rfl
theorem xf_X0_40 : XFld RX0 40 0 6 := ⟨_, _, _, _, xk_X0, by decide, xfl_X0_40⟩
theorem xp_X0_40  (x : Nat) : XPut RX0 "<init>" 40 0 6 (.ref x) := ⟨_, _, _, _, xk_X0, by decide, xfl_X0_40, rfl, rfl, Or.inr ⟨rfl, rfl, rfl⟩⟩
theorem xfl_X0_43 : Cond.fieldLink RX0 43 "Treeletter$Checker" "nodes" "[I" ∈ xg := xg2 82 rfl rfl
theorem xf_X0_43 : XFld RX0 43 0 7 := ⟨_, _, _, _, xk_X0, by decide, xfl_X0_43⟩
theorem xp_X0_43  (x : Nat) : XPut RX0 "<init>" 43 0 7 (.ref x) := ⟨_, _, _, _, xk_X0, by decide, xfl_X0_43, rfl, rfl, Or.inr ⟨rfl, rfl, rfl⟩⟩
theorem xfl_X0_46 : Cond.fieldLink RX0 46 "Treeletter$Checker" "words" "[I" ∈ xg := xg2 83 rfl rfl
theorem xf_X0_46 : XFld RX0 46 0 8 := ⟨_, _, _, _, xk_X0, by decide, xfl_X0_46⟩
theorem xp_X0_46  (x : Nat) : XPut RX0 "<init>" 46 0 8 (.ref x) := ⟨_, _, _, _, xk_X0, by decide, xfl_X0_46, rfl, rfl, Or.inr ⟨rfl, rfl, rfl⟩⟩
theorem xfl_X0_49 : Cond.fieldLink RX0 49 "Treeletter$Checker" "schema" "LTreeletter$Tree;" ∈ xg := xg2 84 rfl rfl
theorem xf_X0_49 : XFld RX0 49 0 9 := ⟨_, _, _, _, xk_X0, by decide, xfl_X0_49⟩
theorem xp_X0_49 {nm : String} (x : Nat) : XPut RX0 nm 49 0 9 (.ref x) := ⟨_, _, _, _, xk_X0, by decide, xfl_X0_49, rfl, rfl, Or.inl rfl⟩
theorem xfl_X0_52 : Cond.fieldLink RX0 52 "Treeletter$Checker" "tree" "LTreeletter$Tree;" ∈ xg := xg2 85 rfl rfl
theorem xf_X0_52 : XFld RX0 52 0 10 := ⟨_, _, _, _, xk_X0, by decide, xfl_X0_52⟩
theorem xp_X0_52 {nm : String} (x : Nat) : XPut RX0 nm 52 0 10 (.ref x) := ⟨_, _, _, _, xk_X0, by decide, xfl_X0_52, rfl, rfl, Or.inl rfl⟩
theorem xfl_X0_55 : Cond.fieldLink RX0 55 "Treeletter$Checker" "count" "I" ∈ xg := xg2 86 rfl rfl
theorem xf_X0_55 : XFld RX0 55 0 11 := ⟨_, _, _, _, xk_X0, by decide, xfl_X0_55⟩
theorem xp_X0_55 {nm : String} (x : Int32) : XPut RX0 nm 55 0 11 (.int x) := ⟨_, _, _, _, xk_X0, by decide, xfl_X0_55, rfl, rfl, Or.inl rfl⟩
theorem xfl_X0_72 : Cond.fieldLink RX0 72 "Treeletter$Checker" "fresh" "I" ∈ xg := xg2 87 rfl rfl
theorem xf_X0_72 : XFld RX0 72 0 12 := ⟨_, _, _, _, xk_X0, by decide, xfl_X0_72⟩
theorem xp_X0_72 {nm : String} (x : Int32) : XPut RX0 nm 72 0 12 (.int x) := ⟨_, _, _, _, xk_X0, by decide, xfl_X0_72, rfl, rfl, Or.inl rfl⟩
theorem xfl_X0_81 : Cond.fieldLink RX0 81 "Treeletter$Checker" "refs" "I" ∈ xg := xg2 88 rfl rfl
theorem xf_X0_81 : XFld RX0 81 0 13 := ⟨_, _, _, _, xk_X0, by decide, xfl_X0_81⟩
theorem xp_X0_81 {nm : String} (x : Int32) : XPut RX0 nm 81 0 13 (.int x) := ⟨_, _, _, _, xk_X0, by decide, xfl_X0_81, rfl, rfl, Or.inl rfl⟩
theorem xfl_X0_78 : Cond.fieldLink RX0 78 "Treeletter$Checker" "asked" "I" ∈ xg := xg2 89 rfl rfl
theorem xf_X0_78 : XFld RX0 78 0 14 := ⟨_, _, _, _, xk_X0, by decide, xfl_X0_78⟩
theorem xp_X0_78 {nm : String} (x : Int32) : XPut RX0 nm 78 0 14 (.int x) := ⟨_, _, _, _, xk_X0, by decide, xfl_X0_78, rfl, rfl, Or.inl rfl⟩
theorem xfl_X0_75 : Cond.fieldLink RX0 75 "Treeletter$Checker" "mostAsked" "I" ∈ xg := xg2 90 rfl rfl
theorem xf_X0_75 : XFld RX0 75 0 15 := ⟨_, _, _, _, xk_X0, by decide, xfl_X0_75⟩
theorem xp_X0_75 {nm : String} (x : Int32) : XPut RX0 nm 75 0 15 (.int x) := ⟨_, _, _, _, xk_X0, by decide, xfl_X0_75, rfl, rfl, Or.inl rfl⟩
theorem xfl_X0_68 : Cond.fieldLink RX0 68 "Treeletter$Checker" "tooMuch" "Z" ∈ xg := xg2 91 rfl rfl
theorem xf_X0_68 : XFld RX0 68 0 16 := ⟨_, _, _, _, xk_X0, by decide, xfl_X0_68⟩
theorem xp_X0_68 {nm : String} {x : Int32} (hx : x = 0 ∨ x = 1) : XPut RX0 nm 68 0 16 (.int x) := ⟨_, _, _, _, xk_X0, by decide, xfl_X0_68, by rcases hx with rfl | rfl <;> rfl, by rcases hx with rfl | rfl <;> rfl, Or.inl rfl⟩
theorem xfl_X3_12 : Cond.fieldLink RX3 12 "Treeletter$Grower" "made" "LTreeletter$Tree;" ∈ xg := xg2 137 rfl rfl
theorem xf_X3_12 : XFld RX3 12 3 0 := ⟨_, _, _, _, xk_X3, by decide, xfl_X3_12⟩
theorem xp_X3_12  (x : Nat) : XPut RX3 "<init>" 12 3 0 (.ref x) := ⟨_, _, _, _, xk_X3, by decide, xfl_X3_12, rfl, rfl, Or.inr ⟨rfl, rfl, rfl⟩⟩
theorem xfl_X3_18 : Cond.fieldLink RX3 18 "Treeletter$Grower" "spare" "LTreeletter$Tree;" ∈ xg := xg2 138 rfl rfl
theorem xf_X3_18 : XFld RX3 18 3 1 := ⟨_, _, _, _, xk_X3, by decide, xfl_X3_18⟩
theorem xp_X3_18  (x : Nat) : XPut RX3 "<init>" 18 3 1 (.ref x) := ⟨_, _, _, _, xk_X3, by decide, xfl_X3_18, rfl, rfl, Or.inr ⟨rfl, rfl, rfl⟩⟩
theorem xfl_X3_26 : Cond.fieldLink RX3 26 "Treeletter$Grower" "figures" "LTreeletter$Sheet;" ∈ xg := xg2 139 rfl rfl
theorem xf_X3_26 : XFld RX3 26 3 2 := ⟨_, _, _, _, xk_X3, by decide, xfl_X3_26⟩
theorem xp_X3_26  (x : Nat) : XPut RX3 "<init>" 26 3 2 (.ref x) := ⟨_, _, _, _, xk_X3, by decide, xfl_X3_26, rfl, rfl, Or.inr ⟨rfl, rfl, rfl⟩⟩
theorem xfl_X3_30 : Cond.fieldLink RX3 30 "Treeletter$Grower" "key" "LTreeletter$Sheet;" ∈ xg := xg2 140 rfl rfl
theorem xf_X3_30 : XFld RX3 30 3 3 := ⟨_, _, _, _, xk_X3, by decide, xfl_X3_30⟩
theorem xp_X3_30  (x : Nat) : XPut RX3 "<init>" 30 3 3 (.ref x) := ⟨_, _, _, _, xk_X3, by decide, xfl_X3_30, rfl, rfl, Or.inr ⟨rfl, rfl, rfl⟩⟩
theorem xfl_X3_33 : Cond.fieldLink RX3 33 "Treeletter$Grower" "x" "I" ∈ xg := xg2 141 rfl rfl
theorem xf_X3_33 : XFld RX3 33 3 4 := ⟨_, _, _, _, xk_X3, by decide, xfl_X3_33⟩
theorem xp_X3_33 {nm : String} (x : Int32) : XPut RX3 nm 33 3 4 (.int x) := ⟨_, _, _, _, xk_X3, by decide, xfl_X3_33, rfl, rfl, Or.inl rfl⟩
theorem xfl_J0_38 : Cond.fieldLink RJ0 38 "java/lang/String" "COMPACT_STRINGS" "Z" ∈ xg := xg2 173 rfl rfl
theorem xfl_J0_1053 : Cond.fieldLink RJ0 1053 "jdk/internal/util/Preconditions" "SIOOBE_FORMATTER" "Ljava/util/function/BiFunction;" ∈ xg := xg2 189 rfl rfl
theorem xfl_J2_44 : Cond.fieldLink RJ2 44 "java/lang/StringUTF16" "$assertionsDisabled" "Z" ∈ xg := xg2 207 rfl rfl
theorem xfl_J2_59 : Cond.fieldLink RJ2 59 "java/lang/StringUTF16" "HI_BYTE_SHIFT" "I" ∈ xg := xg2 209 rfl rfl
theorem xfl_J2_63 : Cond.fieldLink RJ2 63 "java/lang/StringUTF16" "LO_BYTE_SHIFT" "I" ∈ xg := xg2 211 rfl rfl
theorem xfl_X11_14 : Cond.fieldLink RX11 14 "Treeletter" "thePage" "LTreeletter$Sheet;" ∈ xg := xg3 204 rfl rfl
theorem xf_X11_14 : XFld RX11 14 10 0 := ⟨_, _, _, _, xk_X11, by decide, xfl_X11_14⟩
theorem xp_X11_14  (x : Nat) : XPut RX11 "<init>" 14 10 0 (.ref x) := ⟨_, _, _, _, xk_X11, by decide, xfl_X11_14, rfl, rfl, Or.inr ⟨rfl, rfl, rfl⟩⟩
theorem xfl_X11_19 : Cond.fieldLink RX11 19 "Treeletter" "thePaper" "LTreeletter$Sheet;" ∈ xg := xg3 205 rfl rfl
theorem xf_X11_19 : XFld RX11 19 10 1 := ⟨_, _, _, _, xk_X11, by decide, xfl_X11_19⟩
theorem xp_X11_19  (x : Nat) : XPut RX11 "<init>" 19 10 1 (.ref x) := ⟨_, _, _, _, xk_X11, by decide, xfl_X11_19, rfl, rfl, Or.inr ⟨rfl, rfl, rfl⟩⟩
theorem xfl_X11_22 : Cond.fieldLink RX11 22 "Treeletter" "draft" "LTreeletter$Sheet;" ∈ xg := xg3 206 rfl rfl
theorem xf_X11_22 : XFld RX11 22 10 2 := ⟨_, _, _, _, xk_X11, by decide, xfl_X11_22⟩
theorem xp_X11_22  (x : Nat) : XPut RX11 "<init>" 22 10 2 (.ref x) := ⟨_, _, _, _, xk_X11, by decide, xfl_X11_22, rfl, rfl, Or.inr ⟨rfl, rfl, rfl⟩⟩
theorem xfl_X11_27 : Cond.fieldLink RX11 27 "Treeletter" "documents" "[LTreeletter$Tree;" ∈ xg := xg3 207 rfl rfl
theorem xf_X11_27 : XFld RX11 27 10 3 := ⟨_, _, _, _, xk_X11, by decide, xfl_X11_27⟩
theorem xp_X11_27  (x : Nat) : XPut RX11 "<init>" 27 10 3 (.ref x) := ⟨_, _, _, _, xk_X11, by decide, xfl_X11_27, rfl, rfl, Or.inr ⟨rfl, rfl, rfl⟩⟩
theorem xfl_X11_32 : Cond.fieldLink RX11 32 "Treeletter" "made" "LTreeletter$Tree;" ∈ xg := xg3 208 rfl rfl
theorem xf_X11_32 : XFld RX11 32 10 4 := ⟨_, _, _, _, xk_X11, by decide, xfl_X11_32⟩
theorem xp_X11_32  (x : Nat) : XPut RX11 "<init>" 32 10 4 (.ref x) := ⟨_, _, _, _, xk_X11, by decide, xfl_X11_32, rfl, rfl, Or.inr ⟨rfl, rfl, rfl⟩⟩
theorem xfl_X11_36 : Cond.fieldLink RX11 36 "Treeletter" "theStandard" "LTreeletter$Tree;" ∈ xg := xg3 209 rfl rfl
theorem xf_X11_36 : XFld RX11 36 10 5 := ⟨_, _, _, _, xk_X11, by decide, xfl_X11_36⟩
theorem xp_X11_36  (x : Nat) : XPut RX11 "<init>" 36 10 5 (.ref x) := ⟨_, _, _, _, xk_X11, by decide, xfl_X11_36, rfl, rfl, Or.inr ⟨rfl, rfl, rfl⟩⟩
theorem xfl_X11_42 : Cond.fieldLink RX11 42 "Treeletter" "reader" "LTreeletter$Reader;" ∈ xg := xg3 210 rfl rfl
theorem xf_X11_42 : XFld RX11 42 10 6 := ⟨_, _, _, _, xk_X11, by decide, xfl_X11_42⟩
theorem xp_X11_42  (x : Nat) : XPut RX11 "<init>" 42 10 6 (.ref x) := ⟨_, _, _, _, xk_X11, by decide, xfl_X11_42, rfl, rfl, Or.inr ⟨rfl, rfl, rfl⟩⟩
theorem xfl_X11_49 : Cond.fieldLink RX11 49 "Treeletter" "route" "LTreeletter$Route;" ∈ xg := xg3 211 rfl rfl
theorem xf_X11_49 : XFld RX11 49 10 7 := ⟨_, _, _, _, xk_X11, by decide, xfl_X11_49⟩
theorem xp_X11_49  (x : Nat) : XPut RX11 "<init>" 49 10 7 (.ref x) := ⟨_, _, _, _, xk_X11, by decide, xfl_X11_49, rfl, rfl, Or.inr ⟨rfl, rfl, rfl⟩⟩
theorem xfl_X11_56 : Cond.fieldLink RX11 56 "Treeletter" "finder" "LTreeletter$Finder;" ∈ xg := xg3 212 rfl rfl
theorem xf_X11_56 : XFld RX11 56 10 8 := ⟨_, _, _, _, xk_X11, by decide, xfl_X11_56⟩
theorem xp_X11_56  (x : Nat) : XPut RX11 "<init>" 56 10 8 (.ref x) := ⟨_, _, _, _, xk_X11, by decide, xfl_X11_56, rfl, rfl, Or.inr ⟨rfl, rfl, rfl⟩⟩
theorem xfl_X11_63 : Cond.fieldLink RX11 63 "Treeletter" "orders" "LTreeletter$Orders;" ∈ xg := xg3 213 rfl rfl
theorem xf_X11_63 : XFld RX11 63 10 9 := ⟨_, _, _, _, xk_X11, by decide, xfl_X11_63⟩
theorem xp_X11_63  (x : Nat) : XPut RX11 "<init>" 63 10 9 (.ref x) := ⟨_, _, _, _, xk_X11, by decide, xfl_X11_63, rfl, rfl, Or.inr ⟨rfl, rfl, rfl⟩⟩
theorem xfl_X11_70 : Cond.fieldLink RX11 70 "Treeletter" "editor" "LTreeletter$Editor;" ∈ xg := xg3 214 rfl rfl
theorem xf_X11_70 : XFld RX11 70 10 10 := ⟨_, _, _, _, xk_X11, by decide, xfl_X11_70⟩
theorem xp_X11_70  (x : Nat) : XPut RX11 "<init>" 70 10 10 (.ref x) := ⟨_, _, _, _, xk_X11, by decide, xfl_X11_70, rfl, rfl, Or.inr ⟨rfl, rfl, rfl⟩⟩
theorem xfl_X11_77 : Cond.fieldLink RX11 77 "Treeletter" "joiner" "LTreeletter$Joiner;" ∈ xg := xg3 215 rfl rfl
theorem xf_X11_77 : XFld RX11 77 10 11 := ⟨_, _, _, _, xk_X11, by decide, xfl_X11_77⟩
theorem xp_X11_77  (x : Nat) : XPut RX11 "<init>" 77 10 11 (.ref x) := ⟨_, _, _, _, xk_X11, by decide, xfl_X11_77, rfl, rfl, Or.inr ⟨rfl, rfl, rfl⟩⟩
theorem xfl_X11_84 : Cond.fieldLink RX11 84 "Treeletter" "checker" "LTreeletter$Checker;" ∈ xg := xg3 216 rfl rfl
theorem xf_X11_84 : XFld RX11 84 10 12 := ⟨_, _, _, _, xk_X11, by decide, xfl_X11_84⟩
theorem xp_X11_84  (x : Nat) : XPut RX11 "<init>" 84 10 12 (.ref x) := ⟨_, _, _, _, xk_X11, by decide, xfl_X11_84, rfl, rfl, Or.inr ⟨rfl, rfl, rfl⟩⟩
theorem xfl_X11_91 : Cond.fieldLink RX11 91 "Treeletter" "grower" "LTreeletter$Grower;" ∈ xg := xg3 217 rfl rfl
theorem xf_X11_91 : XFld RX11 91 10 13 := ⟨_, _, _, _, xk_X11, by decide, xfl_X11_91⟩
theorem xp_X11_91  (x : Nat) : XPut RX11 "<init>" 91 10 13 (.ref x) := ⟨_, _, _, _, xk_X11, by decide, xfl_X11_91, rfl, rfl, Or.inr ⟨rfl, rfl, rfl⟩⟩
theorem xfl_X11_150 : Cond.fieldLink RX11 150 "Treeletter" "count" "I" ∈ xg := xg3 218 rfl rfl
theorem xf_X11_150 : XFld RX11 150 10 14 := ⟨_, _, _, _, xk_X11, by decide, xfl_X11_150⟩
theorem xp_X11_150 {nm : String} (x : Int32) : XPut RX11 nm 150 10 14 (.int x) := ⟨_, _, _, _, xk_X11, by decide, xfl_X11_150, rfl, rfl, Or.inl rfl⟩
theorem xfl_X11_146 : Cond.fieldLink RX11 146 "Treeletter" "theRule" "I" ∈ xg := xg3 219 rfl rfl
theorem xf_X11_146 : XFld RX11 146 10 15 := ⟨_, _, _, _, xk_X11, by decide, xfl_X11_146⟩
theorem xp_X11_146 {nm : String} (x : Int32) : XPut RX11 nm 146 10 15 (.int x) := ⟨_, _, _, _, xk_X11, by decide, xfl_X11_146, rfl, rfl, Or.inl rfl⟩
theorem xfl_X12_1 : Cond.fieldLink RX12 1 "TreeletterModel" "thrown" "I" ∈ xg := xg9 205 rfl rfl
theorem xf_X12_1 : XFld RX12 1 11 0 := ⟨_, _, _, _, xk_X12, by decide, xfl_X12_1⟩
theorem xp_X12_1 {nm : String} (x : Int32) : XPut RX12 nm 1 11 0 (.int x) := ⟨_, _, _, _, xk_X12, by decide, xfl_X12_1, rfl, rfl, Or.inl rfl⟩
theorem xfl_X12_15 : Cond.fieldLink RX12 15 "TreeletterModel" "docs" "I" ∈ xg := xg9 206 rfl rfl
theorem xf_X12_15 : XFld RX12 15 11 1 := ⟨_, _, _, _, xk_X12, by decide, xfl_X12_15⟩
theorem xp_X12_15 {nm : String} (x : Int32) : XPut RX12 nm 15 11 1 (.int x) := ⟨_, _, _, _, xk_X12, by decide, xfl_X12_15, rfl, rfl, Or.inl rfl⟩
theorem xfl_X12_533 : Cond.fieldLink RX12 533 "TreeletterModel" "rule" "I" ∈ xg := xg9 207 rfl rfl
theorem xf_X12_533 : XFld RX12 533 11 2 := ⟨_, _, _, _, xk_X12, by decide, xfl_X12_533⟩
theorem xp_X12_533 {nm : String} (x : Int32) : XPut RX12 nm 533 11 2 (.int x) := ⟨_, _, _, _, xk_X12, by decide, xfl_X12_533, rfl, rfl, Or.inl rfl⟩
theorem xfl_X12_7 : Cond.fieldLink RX12 7 "TreeletterModel" "d" "[I" ∈ xg := xg9 208 rfl rfl
theorem xf_X12_7 : XFld RX12 7 11 3 := ⟨_, _, _, _, xk_X12, by decide, xfl_X12_7⟩
theorem xp_X12_7  (x : Nat) : XPut RX12 "<init>" 7 11 3 (.ref x) := ⟨_, _, _, _, xk_X12, by decide, xfl_X12_7, rfl, rfl, Or.inr ⟨rfl, rfl, rfl⟩⟩
theorem xfl_X12_26 : Cond.fieldLink RX12 26 "TreeletterModel" "nodes" "[I" ∈ xg := xg9 209 rfl rfl
theorem xf_X12_26 : XFld RX12 26 11 4 := ⟨_, _, _, _, xk_X12, by decide, xfl_X12_26⟩
theorem xp_X12_26  (x : Nat) : XPut RX12 "<init>" 26 11 4 (.ref x) := ⟨_, _, _, _, xk_X12, by decide, xfl_X12_26, rfl, rfl, Or.inr ⟨rfl, rfl, rfl⟩⟩
theorem xfl_X12_29 : Cond.fieldLink RX12 29 "TreeletterModel" "over" "Z" ∈ xg := xg9 210 rfl rfl
theorem xf_X12_29 : XFld RX12 29 11 5 := ⟨_, _, _, _, xk_X12, by decide, xfl_X12_29⟩
theorem xp_X12_29 {nm : String} {x : Int32} (hx : x = 0 ∨ x = 1) : XPut RX12 nm 29 11 5 (.int x) := ⟨_, _, _, _, xk_X12, by decide, xfl_X12_29, by rcases hx with rfl | rfl <;> rfl, by rcases hx with rfl | rfl <;> rfl, Or.inl rfl⟩
theorem xfl_X12_88 : Cond.fieldLink RX12 88 "TreeletterModel" "page" "[I" ∈ xg := xg9 211 rfl rfl
theorem xf_X12_88 : XFld RX12 88 11 6 := ⟨_, _, _, _, xk_X12, by decide, xfl_X12_88⟩
theorem xp_X12_88  (x : Nat) : XPut RX12 "<init>" 88 11 6 (.ref x) := ⟨_, _, _, _, xk_X12, by decide, xfl_X12_88, rfl, rfl, Or.inr ⟨rfl, rfl, rfl⟩⟩
theorem xfl_X12_460 : Cond.fieldLink RX12 460 "TreeletterModel" "signs" "I" ∈ xg := xg9 212 rfl rfl
theorem xf_X12_460 : XFld RX12 460 11 7 := ⟨_, _, _, _, xk_X12, by decide, xfl_X12_460⟩
theorem xp_X12_460 {nm : String} (x : Int32) : XPut RX12 nm 460 11 7 (.int x) := ⟨_, _, _, _, xk_X12, by decide, xfl_X12_460, rfl, rfl, Or.inl rfl⟩
theorem xfl_X12_92 : Cond.fieldLink RX12 92 "TreeletterModel" "paper" "[I" ∈ xg := xg9 213 rfl rfl
theorem xf_X12_92 : XFld RX12 92 11 8 := ⟨_, _, _, _, xk_X12, by decide, xfl_X12_92⟩
theorem xp_X12_92  (x : Nat) : XPut RX12 "<init>" 92 11 8 (.ref x) := ⟨_, _, _, _, xk_X12, by decide, xfl_X12_92, rfl, rfl, Or.inr ⟨rfl, rfl, rfl⟩⟩
theorem xfl_X12_463 : Cond.fieldLink RX12 463 "TreeletterModel" "papers" "I" ∈ xg := xg9 214 rfl rfl
theorem xf_X12_463 : XFld RX12 463 11 9 := ⟨_, _, _, _, xk_X12, by decide, xfl_X12_463⟩
theorem xp_X12_463 {nm : String} (x : Int32) : XPut RX12 nm 463 11 9 (.int x) := ⟨_, _, _, _, xk_X12, by decide, xfl_X12_463, rfl, rfl, Or.inl rfl⟩
theorem xfl_X12_43 : Cond.fieldLink RX12 43 "TreeletterModel" "open" "[I" ∈ xg := xg9 215 rfl rfl
theorem xf_X12_43 : XFld RX12 43 11 10 := ⟨_, _, _, _, xk_X12, by decide, xfl_X12_43⟩
theorem xp_X12_43  (x : Nat) : XPut RX12 "<init>" 43 11 10 (.ref x) := ⟨_, _, _, _, xk_X12, by decide, xfl_X12_43, rfl, rfl, Or.inr ⟨rfl, rfl, rfl⟩⟩
theorem xfl_X12_46 : Cond.fieldLink RX12 46 "TreeletterModel" "left" "[I" ∈ xg := xg9 216 rfl rfl
theorem xf_X12_46 : XFld RX12 46 11 11 := ⟨_, _, _, _, xk_X12, by decide, xfl_X12_46⟩
theorem xp_X12_46  (x : Nat) : XPut RX12 "<init>" 46 11 11 (.ref x) := ⟨_, _, _, _, xk_X12, by decide, xfl_X12_46, rfl, rfl, Or.inr ⟨rfl, rfl, rfl⟩⟩
theorem xfl_X12_69 : Cond.fieldLink RX12 69 "TreeletterModel" "word" "[I" ∈ xg := xg9 217 rfl rfl
theorem xf_X12_69 : XFld RX12 69 11 12 := ⟨_, _, _, _, xk_X12, by decide, xfl_X12_69⟩
theorem xp_X12_69  (x : Nat) : XPut RX12 "<init>" 69 11 12 (.ref x) := ⟨_, _, _, _, xk_X12, by decide, xfl_X12_69, rfl, rfl, Or.inr ⟨rfl, rfl, rfl⟩⟩
theorem xfl_X12_66 : Cond.fieldLink RX12 66 "TreeletterModel" "wordLong" "I" ∈ xg := xg9 218 rfl rfl
theorem xf_X12_66 : XFld RX12 66 11 13 := ⟨_, _, _, _, xk_X12, by decide, xfl_X12_66⟩
theorem xp_X12_66 {nm : String} (x : Int32) : XPut RX12 nm 66 11 13 (.int x) := ⟨_, _, _, _, xk_X12, by decide, xfl_X12_66, rfl, rfl, Or.inl rfl⟩
theorem xfl_X12_95 : Cond.fieldLink RX12 95 "TreeletterModel" "source" "[I" ∈ xg := xg9 219 rfl rfl
theorem xf_X12_95 : XFld RX12 95 11 14 := ⟨_, _, _, _, xk_X12, by decide, xfl_X12_95⟩
theorem xp_X12_95  (x : Nat) : XPut RX12 "<init>" 95 11 14 (.ref x) := ⟨_, _, _, _, xk_X12, by decide, xfl_X12_95, rfl, rfl, Or.inr ⟨rfl, rfl, rfl⟩⟩
theorem xfl_X12_445 : Cond.fieldLink RX12 445 "TreeletterModel" "sources" "I" ∈ xg := xg9 220 rfl rfl
theorem xf_X12_445 : XFld RX12 445 11 15 := ⟨_, _, _, _, xk_X12, by decide, xfl_X12_445⟩
theorem xp_X12_445 {nm : String} (x : Int32) : XPut RX12 nm 445 11 15 (.int x) := ⟨_, _, _, _, xk_X12, by decide, xfl_X12_445, rfl, rfl, Or.inl rfl⟩
theorem xfl_X12_468 : Cond.fieldLink RX12 468 "TreeletterModel" "place" "I" ∈ xg := xg9 221 rfl rfl
theorem xf_X12_468 : XFld RX12 468 11 16 := ⟨_, _, _, _, xk_X12, by decide, xfl_X12_468⟩
theorem xp_X12_468 {nm : String} (x : Int32) : XPut RX12 nm 468 11 16 (.int x) := ⟨_, _, _, _, xk_X12, by decide, xfl_X12_468, rfl, rfl, Or.inl rfl⟩
theorem xfl_X12_246 : Cond.fieldLink RX12 246 "TreeletterModel" "standard" "[J" ∈ xg := xg9 222 rfl rfl
theorem xf_X12_246 : XFld RX12 246 11 17 := ⟨_, _, _, _, xk_X12, by decide, xfl_X12_246⟩
theorem xp_X12_246  (x : Nat) : XPut RX12 "<init>" 246 11 17 (.ref x) := ⟨_, _, _, _, xk_X12, by decide, xfl_X12_246, rfl, rfl, Or.inr ⟨rfl, rfl, rfl⟩⟩
theorem xfl_X12_250 : Cond.fieldLink RX12 250 "TreeletterModel" "figures" "[I" ∈ xg := xg9 223 rfl rfl
theorem xf_X12_250 : XFld RX12 250 11 18 := ⟨_, _, _, _, xk_X12, by decide, xfl_X12_250⟩
theorem xp_X12_250  (x : Nat) : XPut RX12 "<init>" 250 11 18 (.ref x) := ⟨_, _, _, _, xk_X12, by decide, xfl_X12_250, rfl, rfl, Or.inr ⟨rfl, rfl, rfl⟩⟩
theorem xfl_X12_253 : Cond.fieldLink RX12 253 "TreeletterModel" "held" "[I" ∈ xg := xg9 224 rfl rfl
theorem xf_X12_253 : XFld RX12 253 11 19 := ⟨_, _, _, _, xk_X12, by decide, xfl_X12_253⟩
theorem xp_X12_253  (x : Nat) : XPut RX12 "<init>" 253 11 19 (.ref x) := ⟨_, _, _, _, xk_X12, by decide, xfl_X12_253, rfl, rfl, Or.inr ⟨rfl, rfl, rfl⟩⟩
theorem xfl_X12_511 : Cond.fieldLink RX12 511 "TreeletterModel" "holds" "I" ∈ xg := xg9 225 rfl rfl
theorem xf_X12_511 : XFld RX12 511 11 20 := ⟨_, _, _, _, xk_X12, by decide, xfl_X12_511⟩
theorem xp_X12_511 {nm : String} (x : Int32) : XPut RX12 nm 511 11 20 (.int x) := ⟨_, _, _, _, xk_X12, by decide, xfl_X12_511, rfl, rfl, Or.inl rfl⟩
theorem xfl_X12_256 : Cond.fieldLink RX12 256 "TreeletterModel" "keyAhead" "[I" ∈ xg := xg9 226 rfl rfl
theorem xf_X12_256 : XFld RX12 256 11 21 := ⟨_, _, _, _, xk_X12, by decide, xfl_X12_256⟩
theorem xp_X12_256  (x : Nat) : XPut RX12 "<init>" 256 11 21 (.ref x) := ⟨_, _, _, _, xk_X12, by decide, xfl_X12_256, rfl, rfl, Or.inr ⟨rfl, rfl, rfl⟩⟩
theorem xfl_X12_508 : Cond.fieldLink RX12 508 "TreeletterModel" "keyLong" "I" ∈ xg := xg9 227 rfl rfl
theorem xf_X12_508 : XFld RX12 508 11 22 := ⟨_, _, _, _, xk_X12, by decide, xfl_X12_508⟩
theorem xp_X12_508 {nm : String} (x : Int32) : XPut RX12 nm 508 11 22 (.int x) := ⟨_, _, _, _, xk_X12, by decide, xfl_X12_508, rfl, rfl, Or.inl rfl⟩
theorem xfl_X12_259 : Cond.fieldLink RX12 259 "TreeletterModel" "goNode" "[I" ∈ xg := xg9 228 rfl rfl
theorem xf_X12_259 : XFld RX12 259 11 23 := ⟨_, _, _, _, xk_X12, by decide, xfl_X12_259⟩
theorem xp_X12_259  (x : Nat) : XPut RX12 "<init>" 259 11 23 (.ref x) := ⟨_, _, _, _, xk_X12, by decide, xfl_X12_259, rfl, rfl, Or.inr ⟨rfl, rfl, rfl⟩⟩
theorem xfl_X12_262 : Cond.fieldLink RX12 262 "TreeletterModel" "goDone" "[I" ∈ xg := xg9 229 rfl rfl
theorem xf_X12_262 : XFld RX12 262 11 24 := ⟨_, _, _, _, xk_X12, by decide, xfl_X12_262⟩
theorem xp_X12_262  (x : Nat) : XPut RX12 "<init>" 262 11 24 (.ref x) := ⟨_, _, _, _, xk_X12, by decide, xfl_X12_262, rfl, rfl, Or.inr ⟨rfl, rfl, rfl⟩⟩
theorem xfl_X12_265 : Cond.fieldLink RX12 265 "TreeletterModel" "goLast" "[I" ∈ xg := xg9 230 rfl rfl
theorem xf_X12_265 : XFld RX12 265 11 25 := ⟨_, _, _, _, xk_X12, by decide, xfl_X12_265⟩
theorem xp_X12_265  (x : Nat) : XPut RX12 "<init>" 265 11 25 (.ref x) := ⟨_, _, _, _, xk_X12, by decide, xfl_X12_265, rfl, rfl, Or.inr ⟨rfl, rfl, rfl⟩⟩
theorem xfl_X12_269 : Cond.fieldLink RX12 269 "TreeletterModel" "out" "[I" ∈ xg := xg9 231 rfl rfl
theorem xf_X12_269 : XFld RX12 269 11 26 := ⟨_, _, _, _, xk_X12, by decide, xfl_X12_269⟩
theorem xp_X12_269  (x : Nat) : XPut RX12 "<init>" 269 11 26 (.ref x) := ⟨_, _, _, _, xk_X12, by decide, xfl_X12_269, rfl, rfl, Or.inr ⟨rfl, rfl, rfl⟩⟩
theorem xfl_X12_272 : Cond.fieldLink RX12 272 "TreeletterModel" "outs" "[I" ∈ xg := xg9 232 rfl rfl
theorem xf_X12_272 : XFld RX12 272 11 27 := ⟨_, _, _, _, xk_X12, by decide, xfl_X12_272⟩
theorem xp_X12_272  (x : Nat) : XPut RX12 "<init>" 272 11 27 (.ref x) := ⟨_, _, _, _, xk_X12, by decide, xfl_X12_272, rfl, rfl, Or.inr ⟨rfl, rfl, rfl⟩⟩
theorem xfl_X12_275 : Cond.fieldLink RX12 275 "TreeletterModel" "path" "[I" ∈ xg := xg9 233 rfl rfl
theorem xf_X12_275 : XFld RX12 275 11 28 := ⟨_, _, _, _, xk_X12, by decide, xfl_X12_275⟩
theorem xp_X12_275  (x : Nat) : XPut RX12 "<init>" 275 11 28 (.ref x) := ⟨_, _, _, _, xk_X12, by decide, xfl_X12_275, rfl, rfl, Or.inr ⟨rfl, rfl, rfl⟩⟩
theorem xfl_X12_604 : Cond.fieldLink RX12 604 "TreeletterModel" "pathLong" "I" ∈ xg := xg9 234 rfl rfl
theorem xf_X12_604 : XFld RX12 604 11 29 := ⟨_, _, _, _, xk_X12, by decide, xfl_X12_604⟩
theorem xp_X12_604 {nm : String} (x : Int32) : XPut RX12 nm 604 11 29 (.int x) := ⟨_, _, _, _, xk_X12, by decide, xfl_X12_604, rfl, rfl, Or.inl rfl⟩
theorem xfl_X12_607 : Cond.fieldLink RX12 607 "TreeletterModel" "stepFrom" "I" ∈ xg := xg9 235 rfl rfl
theorem xf_X12_607 : XFld RX12 607 11 30 := ⟨_, _, _, _, xk_X12, by decide, xfl_X12_607⟩
theorem xp_X12_607 {nm : String} (x : Int32) : XPut RX12 nm 607 11 30 (.int x) := ⟨_, _, _, _, xk_X12, by decide, xfl_X12_607, rfl, rfl, Or.inl rfl⟩
theorem xfl_X12_610 : Cond.fieldLink RX12 610 "TreeletterModel" "stepTill" "I" ∈ xg := xg9 236 rfl rfl
theorem xf_X12_610 : XFld RX12 610 11 31 := ⟨_, _, _, _, xk_X12, by decide, xfl_X12_610⟩
theorem xp_X12_610 {nm : String} (x : Int32) : XPut RX12 nm 610 11 31 (.int x) := ⟨_, _, _, _, xk_X12, by decide, xfl_X12_610, rfl, rfl, Or.inl rfl⟩
theorem xfl_X12_644 : Cond.fieldLink RX12 644 "TreeletterModel" "finds" "I" ∈ xg := xg9 237 rfl rfl
theorem xf_X12_644 : XFld RX12 644 11 32 := ⟨_, _, _, _, xk_X12, by decide, xfl_X12_644⟩
theorem xp_X12_644 {nm : String} (x : Int32) : XPut RX12 nm 644 11 32 (.int x) := ⟨_, _, _, _, xk_X12, by decide, xfl_X12_644, rfl, rfl, Or.inl rfl⟩
theorem xfl_X12_278 : Cond.fieldLink RX12 278 "TreeletterModel" "found" "[I" ∈ xg := xg9 238 rfl rfl
theorem xf_X12_278 : XFld RX12 278 11 33 := ⟨_, _, _, _, xk_X12, by decide, xfl_X12_278⟩
theorem xp_X12_278  (x : Nat) : XPut RX12 "<init>" 278 11 33 (.ref x) := ⟨_, _, _, _, xk_X12, by decide, xfl_X12_278, rfl, rfl, Or.inr ⟨rfl, rfl, rfl⟩⟩
theorem xfl_X12_281 : Cond.fieldLink RX12 281 "TreeletterModel" "next" "[I" ∈ xg := xg9 239 rfl rfl
theorem xf_X12_281 : XFld RX12 281 11 34 := ⟨_, _, _, _, xk_X12, by decide, xfl_X12_281⟩
theorem xp_X12_281  (x : Nat) : XPut RX12 "<init>" 281 11 34 (.ref x) := ⟨_, _, _, _, xk_X12, by decide, xfl_X12_281, rfl, rfl, Or.inr ⟨rfl, rfl, rfl⟩⟩
theorem xfl_X12_284 : Cond.fieldLink RX12 284 "TreeletterModel" "been" "[Z" ∈ xg := xg10 0 rfl rfl
theorem xf_X12_284 : XFld RX12 284 11 35 := ⟨_, _, _, _, xk_X12, by decide, xfl_X12_284⟩
theorem xp_X12_284  (x : Nat) : XPut RX12 "<init>" 284 11 35 (.ref x) := ⟨_, _, _, _, xk_X12, by decide, xfl_X12_284, rfl, rfl, Or.inr ⟨rfl, rfl, rfl⟩⟩
theorem xfl_X12_629 : Cond.fieldLink RX12 629 "TreeletterModel" "nextMany" "I" ∈ xg := xg10 1 rfl rfl
theorem xf_X12_629 : XFld RX12 629 11 36 := ⟨_, _, _, _, xk_X12, by decide, xfl_X12_629⟩
theorem xp_X12_629 {nm : String} (x : Int32) : XPut RX12 nm 629 11 36 (.int x) := ⟨_, _, _, _, xk_X12, by decide, xfl_X12_629, rfl, rfl, Or.inl rfl⟩
theorem xfl_X12_300 : Cond.fieldLink RX12 300 "TreeletterModel" "ops" "[J" ∈ xg := xg10 2 rfl rfl
theorem xf_X12_300 : XFld RX12 300 11 37 := ⟨_, _, _, _, xk_X12, by decide, xfl_X12_300⟩
theorem xp_X12_300  (x : Nat) : XPut RX12 "<init>" 300 11 37 (.ref x) := ⟨_, _, _, _, xk_X12, by decide, xfl_X12_300, rfl, rfl, Or.inr ⟨rfl, rfl, rfl⟩⟩
theorem xfl_X12_714 : Cond.fieldLink RX12 714 "TreeletterModel" "tooLong" "Z" ∈ xg := xg10 3 rfl rfl
theorem xf_X12_714 : XFld RX12 714 11 38 := ⟨_, _, _, _, xk_X12, by decide, xfl_X12_714⟩
theorem xp_X12_714 {nm : String} {x : Int32} (hx : x = 0 ∨ x = 1) : XPut RX12 nm 714 11 38 (.int x) := ⟨_, _, _, _, xk_X12, by decide, xfl_X12_714, by rcases hx with rfl | rfl <;> rfl, by rcases hx with rfl | rfl <;> rfl, Or.inl rfl⟩
theorem xfl_X12_303 : Cond.fieldLink RX12 303 "TreeletterModel" "common" "[I" ∈ xg := xg10 4 rfl rfl
theorem xf_X12_303 : XFld RX12 303 11 39 := ⟨_, _, _, _, xk_X12, by decide, xfl_X12_303⟩
theorem xp_X12_303  (x : Nat) : XPut RX12 "<init>" 303 11 39 (.ref x) := ⟨_, _, _, _, xk_X12, by decide, xfl_X12_303, rfl, rfl, Or.inr ⟨rfl, rfl, rfl⟩⟩
theorem xfl_X12_306 : Cond.fieldLink RX12 306 "TreeletterModel" "isPaired" "[Z" ∈ xg := xg10 5 rfl rfl
theorem xf_X12_306 : XFld RX12 306 11 40 := ⟨_, _, _, _, xk_X12, by decide, xfl_X12_306⟩
theorem xp_X12_306  (x : Nat) : XPut RX12 "<init>" 306 11 40 (.ref x) := ⟨_, _, _, _, xk_X12, by decide, xfl_X12_306, rfl, rfl, Or.inr ⟨rfl, rfl, rfl⟩⟩
theorem xfl_X12_309 : Cond.fieldLink RX12 309 "TreeletterModel" "fOne" "[I" ∈ xg := xg10 6 rfl rfl
theorem xf_X12_309 : XFld RX12 309 11 41 := ⟨_, _, _, _, xk_X12, by decide, xfl_X12_309⟩
theorem xp_X12_309  (x : Nat) : XPut RX12 "<init>" 309 11 41 (.ref x) := ⟨_, _, _, _, xk_X12, by decide, xfl_X12_309, rfl, rfl, Or.inr ⟨rfl, rfl, rfl⟩⟩
theorem xfl_X12_312 : Cond.fieldLink RX12 312 "TreeletterModel" "fOther" "[I" ∈ xg := xg10 7 rfl rfl
theorem xf_X12_312 : XFld RX12 312 11 42 := ⟨_, _, _, _, xk_X12, by decide, xfl_X12_312⟩
theorem xp_X12_312  (x : Nat) : XPut RX12 "<init>" 312 11 42 (.ref x) := ⟨_, _, _, _, xk_X12, by decide, xfl_X12_312, rfl, rfl, Or.inr ⟨rfl, rfl, rfl⟩⟩
theorem xfl_X12_315 : Cond.fieldLink RX12 315 "TreeletterModel" "fNext" "[I" ∈ xg := xg10 8 rfl rfl
theorem xf_X12_315 : XFld RX12 315 11 43 := ⟨_, _, _, _, xk_X12, by decide, xfl_X12_315⟩
theorem xp_X12_315  (x : Nat) : XPut RX12 "<init>" 315 11 43 (.ref x) := ⟨_, _, _, _, xk_X12, by decide, xfl_X12_315, rfl, rfl, Or.inr ⟨rfl, rfl, rfl⟩⟩
theorem xfl_X12_765 : Cond.fieldLink RX12 765 "TreeletterModel" "jO" "I" ∈ xg := xg10 9 rfl rfl
theorem xf_X12_765 : XFld RX12 765 11 44 := ⟨_, _, _, _, xk_X12, by decide, xfl_X12_765⟩
theorem xp_X12_765 {nm : String} (x : Int32) : XPut RX12 nm 765 11 44 (.int x) := ⟨_, _, _, _, xk_X12, by decide, xfl_X12_765, rfl, rfl, Or.inl rfl⟩
theorem xfl_X12_756 : Cond.fieldLink RX12 756 "TreeletterModel" "jA" "I" ∈ xg := xg10 10 rfl rfl
theorem xf_X12_756 : XFld RX12 756 11 45 := ⟨_, _, _, _, xk_X12, by decide, xfl_X12_756⟩
theorem xp_X12_756 {nm : String} (x : Int32) : XPut RX12 nm 756 11 45 (.int x) := ⟨_, _, _, _, xk_X12, by decide, xfl_X12_756, rfl, rfl, Or.inl rfl⟩
theorem xfl_X12_759 : Cond.fieldLink RX12 759 "TreeletterModel" "jB" "I" ∈ xg := xg10 11 rfl rfl
theorem xf_X12_759 : XFld RX12 759 11 46 := ⟨_, _, _, _, xk_X12, by decide, xfl_X12_759⟩
theorem xp_X12_759 {nm : String} (x : Int32) : XPut RX12 nm 759 11 46 (.int x) := ⟨_, _, _, _, xk_X12, by decide, xfl_X12_759, rfl, rfl, Or.inl rfl⟩
theorem xfl_X12_318 : Cond.fieldLink RX12 318 "TreeletterModel" "qO" "[I" ∈ xg := xg10 12 rfl rfl
theorem xf_X12_318 : XFld RX12 318 11 47 := ⟨_, _, _, _, xk_X12, by decide, xfl_X12_318⟩
theorem xp_X12_318  (x : Nat) : XPut RX12 "<init>" 318 11 47 (.ref x) := ⟨_, _, _, _, xk_X12, by decide, xfl_X12_318, rfl, rfl, Or.inr ⟨rfl, rfl, rfl⟩⟩
theorem xfl_X12_321 : Cond.fieldLink RX12 321 "TreeletterModel" "qA" "[I" ∈ xg := xg10 13 rfl rfl
theorem xf_X12_321 : XFld RX12 321 11 48 := ⟨_, _, _, _, xk_X12, by decide, xfl_X12_321⟩
theorem xp_X12_321  (x : Nat) : XPut RX12 "<init>" 321 11 48 (.ref x) := ⟨_, _, _, _, xk_X12, by decide, xfl_X12_321, rfl, rfl, Or.inr ⟨rfl, rfl, rfl⟩⟩
theorem xfl_X12_324 : Cond.fieldLink RX12 324 "TreeletterModel" "qB" "[I" ∈ xg := xg10 14 rfl rfl
theorem xf_X12_324 : XFld RX12 324 11 49 := ⟨_, _, _, _, xk_X12, by decide, xfl_X12_324⟩
theorem xp_X12_324  (x : Nat) : XPut RX12 "<init>" 324 11 49 (.ref x) := ⟨_, _, _, _, xk_X12, by decide, xfl_X12_324, rfl, rfl, Or.inr ⟨rfl, rfl, rfl⟩⟩
theorem xfl_X12_327 : Cond.fieldLink RX12 327 "TreeletterModel" "qPhase" "[I" ∈ xg := xg10 15 rfl rfl
theorem xf_X12_327 : XFld RX12 327 11 50 := ⟨_, _, _, _, xk_X12, by decide, xfl_X12_327⟩
theorem xp_X12_327  (x : Nat) : XPut RX12 "<init>" 327 11 50 (.ref x) := ⟨_, _, _, _, xk_X12, by decide, xfl_X12_327, rfl, rfl, Or.inr ⟨rfl, rfl, rfl⟩⟩
theorem xfl_X12_330 : Cond.fieldLink RX12 330 "TreeletterModel" "qNext" "[I" ∈ xg := xg10 16 rfl rfl
theorem xf_X12_330 : XFld RX12 330 11 51 := ⟨_, _, _, _, xk_X12, by decide, xfl_X12_330⟩
theorem xp_X12_330  (x : Nat) : XPut RX12 "<init>" 330 11 51 (.ref x) := ⟨_, _, _, _, xk_X12, by decide, xfl_X12_330, rfl, rfl, Or.inr ⟨rfl, rfl, rfl⟩⟩
theorem xfl_X12_333 : Cond.fieldLink RX12 333 "TreeletterModel" "qOut" "[I" ∈ xg := xg10 17 rfl rfl
theorem xf_X12_333 : XFld RX12 333 11 52 := ⟨_, _, _, _, xk_X12, by decide, xfl_X12_333⟩
theorem xp_X12_333  (x : Nat) : XPut RX12 "<init>" 333 11 52 (.ref x) := ⟨_, _, _, _, xk_X12, by decide, xfl_X12_333, rfl, rfl, Or.inr ⟨rfl, rfl, rfl⟩⟩
theorem xfl_X12_336 : Cond.fieldLink RX12 336 "TreeletterModel" "qPath" "[I" ∈ xg := xg10 18 rfl rfl
theorem xf_X12_336 : XFld RX12 336 11 53 := ⟨_, _, _, _, xk_X12, by decide, xfl_X12_336⟩
theorem xp_X12_336  (x : Nat) : XPut RX12 "<init>" 336 11 53 (.ref x) := ⟨_, _, _, _, xk_X12, by decide, xfl_X12_336, rfl, rfl, Or.inr ⟨rfl, rfl, rfl⟩⟩
theorem xfl_X12_790 : Cond.fieldLink RX12 790 "TreeletterModel" "quarrels" "I" ∈ xg := xg10 19 rfl rfl
theorem xf_X12_790 : XFld RX12 790 11 54 := ⟨_, _, _, _, xk_X12, by decide, xfl_X12_790⟩
theorem xp_X12_790 {nm : String} (x : Int32) : XPut RX12 nm 790 11 54 (.int x) := ⟨_, _, _, _, xk_X12, by decide, xfl_X12_790, rfl, rfl, Or.inl rfl⟩
theorem xfl_X12_339 : Cond.fieldLink RX12 339 "TreeletterModel" "quarrelAt" "[I" ∈ xg := xg10 20 rfl rfl
theorem xf_X12_339 : XFld RX12 339 11 55 := ⟨_, _, _, _, xk_X12, by decide, xfl_X12_339⟩
theorem xp_X12_339  (x : Nat) : XPut RX12 "<init>" 339 11 55 (.ref x) := ⟨_, _, _, _, xk_X12, by decide, xfl_X12_339, rfl, rfl, Or.inr ⟨rfl, rfl, rfl⟩⟩
theorem xfl_X12_343 : Cond.fieldLink RX12 343 "TreeletterModel" "quarrel" "[I" ∈ xg := xg10 21 rfl rfl
theorem xf_X12_343 : XFld RX12 343 11 56 := ⟨_, _, _, _, xk_X12, by decide, xfl_X12_343⟩
theorem xp_X12_343  (x : Nat) : XPut RX12 "<init>" 343 11 56 (.ref x) := ⟨_, _, _, _, xk_X12, by decide, xfl_X12_343, rfl, rfl, Or.inr ⟨rfl, rfl, rfl⟩⟩
theorem xfl_X12_768 : Cond.fieldLink RX12 768 "TreeletterModel" "met" "I" ∈ xg := xg10 22 rfl rfl
theorem xf_X12_768 : XFld RX12 768 11 57 := ⟨_, _, _, _, xk_X12, by decide, xfl_X12_768⟩
theorem xp_X12_768 {nm : String} (x : Int32) : XPut RX12 nm 768 11 57 (.int x) := ⟨_, _, _, _, xk_X12, by decide, xfl_X12_768, rfl, rfl, Or.inl rfl⟩
theorem xfl_X12_346 : Cond.fieldLink RX12 346 "TreeletterModel" "metAt" "[I" ∈ xg := xg10 23 rfl rfl
theorem xf_X12_346 : XFld RX12 346 11 58 := ⟨_, _, _, _, xk_X12, by decide, xfl_X12_346⟩
theorem xp_X12_346  (x : Nat) : XPut RX12 "<init>" 346 11 58 (.ref x) := ⟨_, _, _, _, xk_X12, by decide, xfl_X12_346, rfl, rfl, Or.inr ⟨rfl, rfl, rfl⟩⟩
theorem xfl_X12_349 : Cond.fieldLink RX12 349 "TreeletterModel" "metPath" "[I" ∈ xg := xg10 24 rfl rfl
theorem xf_X12_349 : XFld RX12 349 11 59 := ⟨_, _, _, _, xk_X12, by decide, xfl_X12_349⟩
theorem xp_X12_349  (x : Nat) : XPut RX12 "<init>" 349 11 59 (.ref x) := ⟨_, _, _, _, xk_X12, by decide, xfl_X12_349, rfl, rfl, Or.inr ⟨rfl, rfl, rfl⟩⟩
theorem xfl_X12_382 : Cond.fieldLink RX12 382 "TreeletterModel" "words" "[J" ∈ xg := xg10 25 rfl rfl
theorem xf_X12_382 : XFld RX12 382 11 60 := ⟨_, _, _, _, xk_X12, by decide, xfl_X12_382⟩
theorem xp_X12_382  (x : Nat) : XPut RX12 "<init>" 382 11 60 (.ref x) := ⟨_, _, _, _, xk_X12, by decide, xfl_X12_382, rfl, rfl, Or.inr ⟨rfl, rfl, rfl⟩⟩
theorem xfl_X12_399 : Cond.fieldLink RX12 399 "TreeletterModel" "kinds" "[J" ∈ xg := xg10 26 rfl rfl
theorem xf_X12_399 : XFld RX12 399 11 61 := ⟨_, _, _, _, xk_X12, by decide, xfl_X12_399⟩
theorem xp_X12_399  (x : Nat) : XPut RX12 "<init>" 399 11 61 (.ref x) := ⟨_, _, _, _, xk_X12, by decide, xfl_X12_399, rfl, rfl, Or.inr ⟨rfl, rfl, rfl⟩⟩
theorem xfl_X12_802 : Cond.fieldLink RX12 802 "TreeletterModel" "asked" "I" ∈ xg := xg10 27 rfl rfl
theorem xf_X12_802 : XFld RX12 802 11 62 := ⟨_, _, _, _, xk_X12, by decide, xfl_X12_802⟩
theorem xp_X12_802 {nm : String} (x : Int32) : XPut RX12 nm 802 11 62 (.int x) := ⟨_, _, _, _, xk_X12, by decide, xfl_X12_802, rfl, rfl, Or.inl rfl⟩
theorem xfl_X12_805 : Cond.fieldLink RX12 805 "TreeletterModel" "about" "I" ∈ xg := xg10 28 rfl rfl
theorem xf_X12_805 : XFld RX12 805 11 63 := ⟨_, _, _, _, xk_X12, by decide, xfl_X12_805⟩
theorem xp_X12_805 {nm : String} (x : Int32) : XPut RX12 nm 805 11 63 (.int x) := ⟨_, _, _, _, xk_X12, by decide, xfl_X12_805, rfl, rfl, Or.inl rfl⟩
theorem xfl_X12_796 : Cond.fieldLink RX12 796 "TreeletterModel" "asks" "I" ∈ xg := xg10 29 rfl rfl
theorem xf_X12_796 : XFld RX12 796 11 64 := ⟨_, _, _, _, xk_X12, by decide, xfl_X12_796⟩
theorem xp_X12_796 {nm : String} (x : Int32) : XPut RX12 nm 796 11 64 (.int x) := ⟨_, _, _, _, xk_X12, by decide, xfl_X12_796, rfl, rfl, Or.inl rfl⟩
theorem xfl_X12_845 : Cond.fieldLink RX12 845 "TreeletterModel" "tooMany" "Z" ∈ xg := xg10 30 rfl rfl
theorem xf_X12_845 : XFld RX12 845 11 65 := ⟨_, _, _, _, xk_X12, by decide, xfl_X12_845⟩
theorem xp_X12_845 {nm : String} {x : Int32} (hx : x = 0 ∨ x = 1) : XPut RX12 nm 845 11 65 (.int x) := ⟨_, _, _, _, xk_X12, by decide, xfl_X12_845, by rcases hx with rfl | rfl <;> rfl, by rcases hx with rfl | rfl <;> rfl, Or.inl rfl⟩
theorem xfl_X12_799 : Cond.fieldLink RX12 799 "TreeletterModel" "frames" "I" ∈ xg := xg10 31 rfl rfl
theorem xf_X12_799 : XFld RX12 799 11 66 := ⟨_, _, _, _, xk_X12, by decide, xfl_X12_799⟩
theorem xp_X12_799 {nm : String} (x : Int32) : XPut RX12 nm 799 11 66 (.int x) := ⟨_, _, _, _, xk_X12, by decide, xfl_X12_799, rfl, rfl, Or.inl rfl⟩
theorem xfl_X12_402 : Cond.fieldLink RX12 402 "TreeletterModel" "fSchema" "[I" ∈ xg := xg10 32 rfl rfl
theorem xf_X12_402 : XFld RX12 402 11 67 := ⟨_, _, _, _, xk_X12, by decide, xfl_X12_402⟩
theorem xp_X12_402  (x : Nat) : XPut RX12 "<init>" 402 11 67 (.ref x) := ⟨_, _, _, _, xk_X12, by decide, xfl_X12_402, rfl, rfl, Or.inr ⟨rfl, rfl, rfl⟩⟩
theorem xfl_X12_405 : Cond.fieldLink RX12 405 "TreeletterModel" "fNode" "[I" ∈ xg := xg10 33 rfl rfl
theorem xf_X12_405 : XFld RX12 405 11 68 := ⟨_, _, _, _, xk_X12, by decide, xfl_X12_405⟩
theorem xp_X12_405  (x : Nat) : XPut RX12 "<init>" 405 11 68 (.ref x) := ⟨_, _, _, _, xk_X12, by decide, xfl_X12_405, rfl, rfl, Or.inr ⟨rfl, rfl, rfl⟩⟩
theorem xfl_X12_408 : Cond.fieldLink RX12 408 "TreeletterModel" "fWord" "[I" ∈ xg := xg10 34 rfl rfl
theorem xf_X12_408 : XFld RX12 408 11 69 := ⟨_, _, _, _, xk_X12, by decide, xfl_X12_408⟩
theorem xp_X12_408  (x : Nat) : XPut RX12 "<init>" 408 11 69 (.ref x) := ⟨_, _, _, _, xk_X12, by decide, xfl_X12_408, rfl, rfl, Or.inr ⟨rfl, rfl, rfl⟩⟩
theorem xfl_X12_411 : Cond.fieldLink RX12 411 "TreeletterModel" "fPlace" "[I" ∈ xg := xg10 35 rfl rfl
theorem xf_X12_411 : XFld RX12 411 11 70 := ⟨_, _, _, _, xk_X12, by decide, xfl_X12_411⟩
theorem xp_X12_411  (x : Nat) : XPut RX12 "<init>" 411 11 70 (.ref x) := ⟨_, _, _, _, xk_X12, by decide, xfl_X12_411, rfl, rfl, Or.inr ⟨rfl, rfl, rfl⟩⟩
theorem xfl_X12_414 : Cond.fieldLink RX12 414 "TreeletterModel" "fBegin" "[I" ∈ xg := xg10 36 rfl rfl
theorem xf_X12_414 : XFld RX12 414 11 71 := ⟨_, _, _, _, xk_X12, by decide, xfl_X12_414⟩
theorem xp_X12_414  (x : Nat) : XPut RX12 "<init>" 414 11 71 (.ref x) := ⟨_, _, _, _, xk_X12, by decide, xfl_X12_414, rfl, rfl, Or.inr ⟨rfl, rfl, rfl⟩⟩
theorem xfl_X12_417 : Cond.fieldLink RX12 417 "TreeletterModel" "fMark" "[I" ∈ xg := xg10 37 rfl rfl
theorem xf_X12_417 : XFld RX12 417 11 72 := ⟨_, _, _, _, xk_X12, by decide, xfl_X12_417⟩
theorem xp_X12_417  (x : Nat) : XPut RX12 "<init>" 417 11 72 (.ref x) := ⟨_, _, _, _, xk_X12, by decide, xfl_X12_417, rfl, rfl, Or.inr ⟨rfl, rfl, rfl⟩⟩
theorem xfl_X12_420 : Cond.fieldLink RX12 420 "TreeletterModel" "fYes" "[I" ∈ xg := xg10 38 rfl rfl
theorem xf_X12_420 : XFld RX12 420 11 73 := ⟨_, _, _, _, xk_X12, by decide, xfl_X12_420⟩
theorem xp_X12_420  (x : Nat) : XPut RX12 "<init>" 420 11 73 (.ref x) := ⟨_, _, _, _, xk_X12, by decide, xfl_X12_420, rfl, rfl, Or.inr ⟨rfl, rfl, rfl⟩⟩
theorem xfl_X12_423 : Cond.fieldLink RX12 423 "TreeletterModel" "fWaits" "[Z" ∈ xg := xg10 39 rfl rfl
theorem xf_X12_423 : XFld RX12 423 11 74 := ⟨_, _, _, _, xk_X12, by decide, xfl_X12_423⟩
theorem xp_X12_423  (x : Nat) : XPut RX12 "<init>" 423 11 74 (.ref x) := ⟨_, _, _, _, xk_X12, by decide, xfl_X12_423, rfl, rfl, Or.inr ⟨rfl, rfl, rfl⟩⟩
theorem xfl_X12_828 : Cond.fieldLink RX12 828 "TreeletterModel" "said" "Z" ∈ xg := xg10 40 rfl rfl
theorem xf_X12_828 : XFld RX12 828 11 75 := ⟨_, _, _, _, xk_X12, by decide, xfl_X12_828⟩
theorem xp_X12_828 {nm : String} {x : Int32} (hx : x = 0 ∨ x = 1) : XPut RX12 nm 828 11 75 (.int x) := ⟨_, _, _, _, xk_X12, by decide, xfl_X12_828, by rcases hx with rfl | rfl <;> rfl, by rcases hx with rfl | rfl <;> rfl, Or.inl rfl⟩
theorem xfl_X12_825 : Cond.fieldLink RX12 825 "TreeletterModel" "refs" "I" ∈ xg := xg10 41 rfl rfl
theorem xf_X12_825 : XFld RX12 825 11 76 := ⟨_, _, _, _, xk_X12, by decide, xfl_X12_825⟩
theorem xp_X12_825 {nm : String} (x : Int32) : XPut RX12 nm 825 11 76 (.int x) := ⟨_, _, _, _, xk_X12, by decide, xfl_X12_825, rfl, rfl, Or.inl rfl⟩
theorem xfl_X12_426 : Cond.fieldLink RX12 426 "TreeletterModel" "refKey" "[I" ∈ xg := xg10 42 rfl rfl
theorem xf_X12_426 : XFld RX12 426 11 77 := ⟨_, _, _, _, xk_X12, by decide, xfl_X12_426⟩
theorem xp_X12_426  (x : Nat) : XPut RX12 "<init>" 426 11 77 (.ref x) := ⟨_, _, _, _, xk_X12, by decide, xfl_X12_426, rfl, rfl, Or.inr ⟨rfl, rfl, rfl⟩⟩
theorem xfl_X12_429 : Cond.fieldLink RX12 429 "TreeletterModel" "refNode" "[I" ∈ xg := xg10 43 rfl rfl
theorem xf_X12_429 : XFld RX12 429 11 78 := ⟨_, _, _, _, xk_X12, by decide, xfl_X12_429⟩
theorem xp_X12_429  (x : Nat) : XPut RX12 "<init>" 429 11 78 (.ref x) := ⟨_, _, _, _, xk_X12, by decide, xfl_X12_429, rfl, rfl, Or.inr ⟨rfl, rfl, rfl⟩⟩
theorem xfl_X12_793 : Cond.fieldLink RX12 793 "TreeletterModel" "said0" "I" ∈ xg := xg10 44 rfl rfl
theorem xf_X12_793 : XFld RX12 793 11 79 := ⟨_, _, _, _, xk_X12, by decide, xfl_X12_793⟩
theorem xp_X12_793 {nm : String} (x : Int32) : XPut RX12 nm 793 11 79 (.int x) := ⟨_, _, _, _, xk_X12, by decide, xfl_X12_793, rfl, rfl, Or.inl rfl⟩
theorem xfl_X12_433 : Cond.fieldLink RX12 433 "TreeletterModel" "saidList" "[I" ∈ xg := xg10 45 rfl rfl
theorem xf_X12_433 : XFld RX12 433 11 80 := ⟨_, _, _, _, xk_X12, by decide, xfl_X12_433⟩
theorem xp_X12_433  (x : Nat) : XPut RX12 "<init>" 433 11 80 (.ref x) := ⟨_, _, _, _, xk_X12, by decide, xfl_X12_433, rfl, rfl, Or.inr ⟨rfl, rfl, rfl⟩⟩
theorem xfl_X12_852 : Cond.fieldLink RX12 852 "TreeletterModel" "complaints" "I" ∈ xg := xg10 46 rfl rfl
theorem xf_X12_852 : XFld RX12 852 11 81 := ⟨_, _, _, _, xk_X12, by decide, xfl_X12_852⟩
theorem xp_X12_852 {nm : String} (x : Int32) : XPut RX12 nm 852 11 81 (.int x) := ⟨_, _, _, _, xk_X12, by decide, xfl_X12_852, rfl, rfl, Or.inl rfl⟩
theorem xfl_X12_436 : Cond.fieldLink RX12 436 "TreeletterModel" "complaint" "[I" ∈ xg := xg10 47 rfl rfl
theorem xf_X12_436 : XFld RX12 436 11 82 := ⟨_, _, _, _, xk_X12, by decide, xfl_X12_436⟩
theorem xp_X12_436  (x : Nat) : XPut RX12 "<init>" 436 11 82 (.ref x) := ⟨_, _, _, _, xk_X12, by decide, xfl_X12_436, rfl, rfl, Or.inr ⟨rfl, rfl, rfl⟩⟩
theorem xfl_X12_861 : Cond.fieldLink RX12 861 "TreeletterModel" "drawn" "I" ∈ xg := xg10 48 rfl rfl
theorem xf_X12_861 : XFld RX12 861 11 83 := ⟨_, _, _, _, xk_X12, by decide, xfl_X12_861⟩
theorem xp_X12_861 {nm : String} (x : Int32) : XPut RX12 nm 861 11 83 (.int x) := ⟨_, _, _, _, xk_X12, by decide, xfl_X12_861, rfl, rfl, Or.inl rfl⟩
theorem xfl_X12_439 : Cond.fieldLink RX12 439 "TreeletterModel" "gNode" "[I" ∈ xg := xg10 49 rfl rfl
theorem xf_X12_439 : XFld RX12 439 11 84 := ⟨_, _, _, _, xk_X12, by decide, xfl_X12_439⟩
theorem xp_X12_439  (x : Nat) : XPut RX12 "<init>" 439 11 84 (.ref x) := ⟨_, _, _, _, xk_X12, by decide, xfl_X12_439, rfl, rfl, Or.inr ⟨rfl, rfl, rfl⟩⟩
theorem xfl_X12_442 : Cond.fieldLink RX12 442 "TreeletterModel" "gLeft" "[I" ∈ xg := xg10 50 rfl rfl
theorem xf_X12_442 : XFld RX12 442 11 85 := ⟨_, _, _, _, xk_X12, by decide, xfl_X12_442⟩
theorem xp_X12_442  (x : Nat) : XPut RX12 "<init>" 442 11 85 (.ref x) := ⟨_, _, _, _, xk_X12, by decide, xfl_X12_442, rfl, rfl, Or.inr ⟨rfl, rfl, rfl⟩⟩
theorem xfl_J0_9 : Cond.fieldLink RJ0 9 "java/lang/String" "value" "[B" ∈ xg := xg12 228 rfl rfl
theorem xfl_J0_15 : Cond.fieldLink RJ0 15 "java/lang/String" "coder" "B" ∈ xg := xg12 229 rfl rfl
theorem xobj : Cond.instanceMethod objectInit ∈ xg ∧ Cond.code objectInit ⟨#[0xb1]⟩ 1 none ∈ xg := ⟨xg1 32 rfl rfl, xg1 33 rfl rfl⟩
theorem xcl_L_8 : Cond.classLink RL 8 "Treeletter" ∈ xg := xg1 26 rfl rfl
theorem xcl_X11_7 : Cond.classLink RX11 7 "Treeletter$Sheet" ∈ xg := xg1 34 rfl rfl
theorem xac_char : Cond.arrayClass .char ∈ xg := xg1 50 rfl rfl
theorem xc_X11_18 : Cond.constant RX11 18 (36000) ∈ xg := xg1 51 rfl rfl
theorem xcl_X11_25 : Cond.classLink RX11 25 "Treeletter$Tree" ∈ xg := xg1 52 rfl rfl
theorem xac_int : Cond.arrayClass .int ∈ xg := xg1 87 rfl rfl
theorem xcl_X11_39 : Cond.classLink RX11 39 "Treeletter$Reader" ∈ xg := xg1 88 rfl rfl
theorem xcl_X6_9 : Cond.classLink RX6 9 "Treeletter$Tree" ∈ xg := xg1 94 rfl rfl
theorem xcl_X6_21 : Cond.classLink RX6 21 "Treeletter$Sheet" ∈ xg := xg1 96 rfl rfl
theorem xcl_X11_46 : Cond.classLink RX11 46 "Treeletter$Route" ∈ xg := xg1 129 rfl rfl
theorem xcl_X7_9 : Cond.classLink RX7 9 "Treeletter$Sheet" ∈ xg := xg1 135 rfl rfl
theorem xcl_X11_53 : Cond.classLink RX11 53 "Treeletter$Finder" ∈ xg := xg1 150 rfl rfl
theorem xcl_X2_9 : Cond.classLink RX2 9 "Treeletter$Sheet" ∈ xg := xg1 156 rfl rfl
theorem xc_X2_23 : Cond.constant RX2 23 (36000) ∈ xg := xg1 158 rfl rfl
theorem xac_boolean : Cond.arrayClass .boolean ∈ xg := xg1 181 rfl rfl
theorem xcl_X11_60 : Cond.classLink RX11 60 "Treeletter$Orders" ∈ xg := xg1 182 rfl rfl
theorem xcl_X5_9 : Cond.classLink RX5 9 "Treeletter$Sheet" ∈ xg := xg1 188 rfl rfl
theorem xcl_X5_34 : Cond.classLink RX5 34 "Treeletter$Tree" ∈ xg := xg1 190 rfl rfl
theorem xcl_X11_67 : Cond.classLink RX11 67 "Treeletter$Editor" ∈ xg := xg1 217 rfl rfl
theorem xcl_X1_9 : Cond.classLink RX1 9 "Treeletter$Tree" ∈ xg := xg1 223 rfl rfl
theorem xcl_X1_27 : Cond.classLink RX1 27 "Treeletter$Route" ∈ xg := xg1 225 rfl rfl
theorem xcl_X1_34 : Cond.classLink RX1 34 "Treeletter$Sheet" ∈ xg := xg1 227 rfl rfl
theorem xcl_X11_74 : Cond.classLink RX11 74 "Treeletter$Joiner" ∈ xg := xg2 26 rfl rfl
theorem xcl_X4_9 : Cond.classLink RX4 9 "Treeletter$Tree" ∈ xg := xg2 32 rfl rfl
theorem xcl_X4_18 : Cond.classLink RX4 18 "Treeletter$Sheet" ∈ xg := xg2 34 rfl rfl
theorem xc_X4_27 : Cond.constant RX4 27 (60000) ∈ xg := xg2 36 rfl rfl
theorem xcl_X11_81 : Cond.classLink RX11 81 "Treeletter$Checker" ∈ xg := xg2 65 rfl rfl
theorem xcl_X0_9 : Cond.classLink RX0 9 "Treeletter$Tree" ∈ xg := xg2 71 rfl rfl
theorem xcl_X0_18 : Cond.classLink RX0 18 "Treeletter$Sheet" ∈ xg := xg2 73 rfl rfl
theorem xcl_X11_88 : Cond.classLink RX11 88 "Treeletter$Grower" ∈ xg := xg2 127 rfl rfl
theorem xcl_X3_9 : Cond.classLink RX3 9 "Treeletter$Tree" ∈ xg := xg2 133 rfl rfl
theorem xcl_X3_21 : Cond.classLink RX3 21 "Treeletter$Sheet" ∈ xg := xg2 135 rfl rfl
theorem xac_byte : Cond.arrayClass .byte ∈ xg := xg4 13 rfl rfl
theorem xcl_L_13 : Cond.classLink RL 13 "java/lang/IllegalArgumentException" ∈ xg := xg4 31 rfl rfl
theorem xcl_L_15 : Cond.classLink RL 15 "java/lang/IllegalStateException" ∈ xg := xg4 32 rfl rfl
theorem xcl_X11_117 : Cond.classLink RX11 117 "java/lang/IllegalArgumentException" ∈ xg := xg4 43 rfl rfl
theorem xcl_X11_124 : Cond.classLink RX11 124 "java/lang/IllegalStateException" ∈ xg := xg4 106 rfl rfl
theorem xcl_L_21 : Cond.classLink RL 21 "java/lang/IndexOutOfBoundsException" ∈ xg := xg4 125 rfl rfl
theorem xcl_X11_137 : Cond.classLink RX11 137 "java/lang/IndexOutOfBoundsException" ∈ xg := xg4 130 rfl rfl
theorem xc_X11_140 : Cond.constantLong RX11 140 (256) ∈ xg := xg4 145 rfl rfl
theorem xc_X9_46 : Cond.constant RX9 46 (65521) ∈ xg := xg5 160 rfl rfl
theorem xc_X0_59 : Cond.constant RX0 59 (1000000) ∈ xg := xg7 167 rfl rfl
theorem xc_X11_290 : Cond.constant RX11 290 (65536) ∈ xg := xg8 111 rfl rfl
theorem xc_X3_40 : Cond.constant RX3 40 (65536) ∈ xg := xg8 125 rfl rfl
theorem xcl_L_120 : Cond.classLink RL 120 "TreeletterModel" ∈ xg := xg8 206 rfl rfl
theorem xc_X12_87 : Cond.constant RX12 87 (295728) ∈ xg := xg8 212 rfl rfl
theorem xc_X12_91 : Cond.constant RX12 91 (40000) ∈ xg := xg8 213 rfl rfl
theorem xc_X12_98 : Cond.constantLong RX12 98 (8872775580599546658) ∈ xg := xg8 214 rfl rfl
theorem xc_X12_100 : Cond.constantLong RX12 100 (4213999754226072354) ∈ xg := xg8 215 rfl rfl
theorem xc_X12_102 : Cond.constantLong RX12 102 (8317987317909969787) ∈ xg := xg8 216 rfl rfl
theorem xc_X12_104 : Cond.constantLong RX12 104 (2480191942644873762) ∈ xg := xg8 217 rfl rfl
theorem xc_X12_106 : Cond.constantLong RX12 106 (8390898198568402220) ∈ xg := xg8 218 rfl rfl
theorem xc_X12_108 : Cond.constantLong RX12 108 (8872772316441092666) ∈ xg := xg8 219 rfl rfl
theorem xc_X12_110 : Cond.constantLong RX12 110 (2480746103988560491) ∈ xg := xg8 220 rfl rfl
theorem xc_X12_112 : Cond.constantLong RX12 112 (7312002060859941483) ∈ xg := xg8 221 rfl rfl
theorem xc_X12_114 : Cond.constantLong RX12 114 (7597119719593419379) ∈ xg := xg8 222 rfl rfl
theorem xc_X12_116 : Cond.constantLong RX12 116 (8029184908353829666) ∈ xg := xg8 223 rfl rfl
theorem xc_X12_118 : Cond.constantLong RX12 118 (8243106990161816354) ∈ xg := xg8 224 rfl rfl
theorem xc_X12_120 : Cond.constantLong RX12 120 (9019719541477437028) ∈ xg := xg8 225 rfl rfl
theorem xc_X12_122 : Cond.constantLong RX12 122 (2466321620830462508) ∈ xg := xg8 226 rfl rfl
theorem xc_X12_124 : Cond.constantLong RX12 124 (2479641048820949562) ∈ xg := xg8 227 rfl rfl
theorem xc_X12_126 : Cond.constantLong RX12 126 (8872779995704080930) ∈ xg := xg8 228 rfl rfl
theorem xc_X12_128 : Cond.constantLong RX12 128 (7719870688659319842) ∈ xg := xg8 229 rfl rfl
theorem xc_X12_130 : Cond.constantLong RX12 130 (7810756277241526907) ∈ xg := xg8 230 rfl rfl
theorem xc_X12_132 : Cond.constantLong RX12 132 (7959388185823421053) ∈ xg := xg8 231 rfl rfl
theorem xc_X12_134 : Cond.constantLong RX12 134 (3180224612322779706) ∈ xg := xg8 232 rfl rfl
theorem xc_X12_136 : Cond.constantLong RX12 136 (2481049557390422562) ∈ xg := xg8 233 rfl rfl
theorem xc_X12_138 : Cond.constantLong RX12 138 (9019622032784978548) ∈ xg := xg8 234 rfl rfl
theorem xc_X12_140 : Cond.constantLong RX12 140 (7310314310511305323) ∈ xg := xg8 235 rfl rfl
theorem xc_X12_142 : Cond.constantLong RX12 142 (7597119719587606133) ∈ xg := xg8 236 rfl rfl
theorem xc_X12_144 : Cond.constantLong RX12 144 (7881973838731095074) ∈ xg := xg8 237 rfl rfl
theorem xc_X12_146 : Cond.constantLong RX12 146 (7813585268873851938) ∈ xg := xg8 238 rfl rfl
theorem xc_X12_148 : Cond.constantLong RX12 148 (4213999721060918306) ∈ xg := xg8 239 rfl rfl
theorem xc_X12_150 : Cond.constantLong RX12 150 (4189032054033376626) ∈ xg := xg9 0 rfl rfl
theorem xc_X12_152 : Cond.constantLong RX12 152 (2485191095771030884) ∈ xg := xg9 1 rfl rfl
theorem xc_X12_154 : Cond.constantLong RX12 154 (8296257764102728046) ∈ xg := xg9 2 rfl rfl
theorem xc_X12_156 : Cond.constantLong RX12 156 (7215393472624162594) ∈ xg := xg9 3 rfl rfl
theorem xc_X12_158 : Cond.constantLong RX12 158 (3180220235515786018) ∈ xg := xg9 4 rfl rfl
theorem xc_X12_160 : Cond.constantLong RX12 160 (4189038582569378429) ∈ xg := xg9 5 rfl rfl
theorem xc_X12_162 : Cond.constantLong RX12 162 (9019621998375564066) ∈ xg := xg9 6 rfl rfl
theorem xc_X12_164 : Cond.constantLong RX12 164 (4213999751058039354) ∈ xg := xg9 7 rfl rfl
theorem xc_X12_166 : Cond.constantLong RX12 166 (2480676890757721972) ∈ xg := xg9 8 rfl rfl
theorem xc_X12_168 : Cond.constantLong RX12 168 (7522544591413345058) ∈ xg := xg9 9 rfl rfl
theorem xc_X12_170 : Cond.constantLong RX12 170 (8243106990161818402) ∈ xg := xg9 10 rfl rfl
theorem xc_X12_172 : Cond.constantLong RX12 172 (9019621990035975539) ∈ xg := xg9 11 rfl rfl
theorem xc_X12_174 : Cond.constantLong RX12 174 (2466419133817120290) ∈ xg := xg9 12 rfl rfl
theorem xc_X12_176 : Cond.constantLong RX12 176 (4189037195374109295) ∈ xg := xg9 13 rfl rfl
theorem xc_X12_178 : Cond.constantLong RX12 178 (7956867829573821035) ∈ xg := xg9 14 rfl rfl
theorem xc_X12_180 : Cond.constantLong RX12 180 (7597119719587607151) ∈ xg := xg9 15 rfl rfl
theorem xc_X12_182 : Cond.constantLong RX12 182 (8584561468230429804) ∈ xg := xg9 16 rfl rfl
theorem xc_X12_184 : Cond.constantLong RX12 184 (4189036095862481523) ∈ xg := xg9 17 rfl rfl
theorem xc_X12_186 : Cond.constantLong RX12 186 (8029184908355904114) ∈ xg := xg9 18 rfl rfl
theorem xc_X12_188 : Cond.constantLong RX12 188 (7306565078536561277) ∈ xg := xg9 19 rfl rfl
theorem xc_X12_190 : Cond.constantLong RX12 190 (3180226806810819195) ∈ xg := xg9 20 rfl rfl
theorem xc_X12_192 : Cond.constantLong RX12 192 (2482157833969869426) ∈ xg := xg9 21 rfl rfl
theorem xc_X12_194 : Cond.constantLong RX12 194 (2485191095771690018) ∈ xg := xg9 22 rfl rfl
theorem xc_X12_196 : Cond.constantLong RX12 196 (2482365740617986661) ∈ xg := xg9 23 rfl rfl
theorem xc_X12_198 : Cond.constantLong RX12 198 (7359509041609664878) ∈ xg := xg9 24 rfl rfl
theorem xc_X12_200 : Cond.constantLong RX12 200 (7215393472657062004) ∈ xg := xg9 25 rfl rfl
theorem xc_X12_202 : Cond.constantLong RX12 202 (2485191095770770789) ∈ xg := xg9 26 rfl rfl
theorem xc_X12_204 : Cond.constantLong RX12 204 (8296257764103185766) ∈ xg := xg9 27 rfl rfl
theorem xc_X12_206 : Cond.constantLong RX12 206 (2466321598064196989) ∈ xg := xg9 28 rfl rfl
theorem xc_X12_208 : Cond.constantLong RX12 208 (6736589143954045563) ∈ xg := xg9 29 rfl rfl
theorem xc_X12_210 : Cond.constantLong RX12 210 (2481323331872242267) ∈ xg := xg9 30 rfl rfl
theorem xc_X12_212 : Cond.constantLong RX12 212 (2481042990486351463) ∈ xg := xg9 31 rfl rfl
theorem xc_X12_214 : Cond.constantLong RX12 214 (2462380979796669544) ∈ xg := xg9 32 rfl rfl
theorem xc_X12_216 : Cond.constantLong RX12 216 (2462380954076668517) ∈ xg := xg9 33 rfl rfl
theorem xc_X12_218 : Cond.constantLong RX12 218 (8224184396025264244) ∈ xg := xg9 34 rfl rfl
theorem xc_X12_220 : Cond.constantLong RX12 220 (2462380971156513324) ∈ xg := xg9 35 rfl rfl
theorem xc_X12_222 : Cond.constantLong RX12 222 (2480746103988560503) ∈ xg := xg9 36 rfl rfl
theorem xc_X12_224 : Cond.constantLong RX12 224 (7525352683983437100) ∈ xg := xg9 37 rfl rfl
theorem xc_X12_226 : Cond.constantLong RX12 226 (2480676604320312169) ∈ xg := xg9 38 rfl rfl
theorem xc_X12_228 : Cond.constantLong RX12 228 (7954520474924179824) ∈ xg := xg9 39 rfl rfl
theorem xc_X12_230 : Cond.constantLong RX12 230 (2462380958354531698) ∈ xg := xg9 40 rfl rfl
theorem xc_X12_232 : Cond.constantLong RX12 232 (2466321623834000684) ∈ xg := xg9 41 rfl rfl
theorem xc_X12_234 : Cond.constantLong RX12 234 (2482083979203865449) ∈ xg := xg9 42 rfl rfl
theorem xc_X12_236 : Cond.constantLong RX12 236 (7954520474924511095) ∈ xg := xg9 43 rfl rfl
theorem xc_X12_238 : Cond.constantLong RX12 238 (2462380932584533363) ∈ xg := xg9 44 rfl rfl
theorem xc_X12_240 : Cond.constantLong RX12 240 (4189037195379440940) ∈ xg := xg9 45 rfl rfl
theorem xc_X12_242 : Cond.constantLong RX12 242 (2482157833969869427) ∈ xg := xg9 46 rfl rfl
theorem xc_X12_244 : Cond.constantLong RX12 244 (2485177891728400416) ∈ xg := xg9 47 rfl rfl
theorem xc_X12_268 : Cond.constant RX12 268 (80000) ∈ xg := xg9 48 rfl rfl
theorem xc_X12_288 : Cond.constantLong RX12 288 (7017844070512852992) ∈ xg := xg9 49 rfl rfl
theorem xc_X12_290 : Cond.constantLong RX12 290 (8243115018466689024) ∈ xg := xg9 50 rfl rfl
theorem xc_X12_292 : Cond.constantLong RX12 292 (8243118303764243712) ∈ xg := xg9 51 rfl rfl
theorem xc_X12_294 : Cond.constantLong RX12 294 (7885651648712802304) ∈ xg := xg9 52 rfl rfl
theorem xc_X12_296 : Cond.constantLong RX12 296 (7165069197163102208) ∈ xg := xg9 53 rfl rfl
theorem xc_X12_298 : Cond.constantLong RX12 298 (8387236823100817408) ∈ xg := xg9 54 rfl rfl
theorem xc_X12_342 : Cond.constant RX12 342 (120000) ∈ xg := xg9 55 rfl rfl
theorem xc_X12_352 : Cond.constantLong RX12 352 (7739838810388692992) ∈ xg := xg9 56 rfl rfl
theorem xc_X12_354 : Cond.constantLong RX12 354 (7810756277239283712) ∈ xg := xg9 57 rfl rfl
theorem xc_X12_356 : Cond.constantLong RX12 356 (7885648414602428416) ∈ xg := xg9 58 rfl rfl
theorem xc_X12_358 : Cond.constantLong RX12 358 (8316019249309381492) ∈ xg := xg9 59 rfl rfl
theorem xc_X12_360 : Cond.constantLong RX12 360 (7813585268873851904) ∈ xg := xg9 60 rfl rfl
theorem xc_X12_362 : Cond.constantLong RX12 362 (7954875798920364032) ∈ xg := xg9 61 rfl rfl
theorem xc_X12_364 : Cond.constantLong RX12 364 (7738725069534265344) ∈ xg := xg9 62 rfl rfl
theorem xc_X12_366 : Cond.constantLong RX12 366 (8031158820429561856) ∈ xg := xg9 63 rfl rfl
theorem xc_X12_368 : Cond.constantLong RX12 368 (7598809992036089856) ∈ xg := xg9 64 rfl rfl
theorem xc_X12_370 : Cond.constantLong RX12 370 (8029474452595015680) ∈ xg := xg9 65 rfl rfl
theorem xc_X12_372 : Cond.constantLong RX12 372 (7020104666419560448) ∈ xg := xg9 66 rfl rfl
theorem xc_X12_374 : Cond.constantLong RX12 374 (8317987317335719936) ∈ xg := xg9 67 rfl rfl
theorem xc_X12_376 : Cond.constantLong RX12 376 (8029466236322578432) ∈ xg := xg9 68 rfl rfl
theorem xc_X12_378 : Cond.constantLong RX12 378 (7957706609935777792) ∈ xg := xg9 69 rfl rfl
theorem xc_X12_380 : Cond.constantLong RX12 380 (8243106843157594112) ∈ xg := xg9 70 rfl rfl
theorem xc_X12_385 : Cond.constantLong RX12 385 (7957707058381219584) ∈ xg := xg9 71 rfl rfl
theorem xc_X12_387 : Cond.constantLong RX12 387 (8390898198566141952) ∈ xg := xg9 72 rfl rfl
theorem xc_X12_389 : Cond.constantLong RX12 389 (7959388185823412224) ∈ xg := xg9 73 rfl rfl
theorem xc_X12_391 : Cond.constantLong RX12 391 (8387242320658956288) ∈ xg := xg9 74 rfl rfl
theorem xc_X12_393 : Cond.constantLong RX12 393 (8245940284622372864) ∈ xg := xg9 75 rfl rfl
theorem xc_X12_395 : Cond.constantLong RX12 395 (7881703968177389568) ∈ xg := xg9 76 rfl rfl
theorem xc_X12_397 : Cond.constantLong RX12 397 (8604249599432982528) ∈ xg := xg9 77 rfl rfl
theorem xc_X12_432 : Cond.constant RX12 432 (220000) ∈ xg := xg9 78 rfl rfl
theorem xc_X12_72 : Cond.constantLong RX12 72 (255) ∈ xg := xg9 79 rfl rfl
theorem xc_X12_495 : Cond.constantLong RX12 495 (7959387127559487488) ∈ xg := xg9 146 rfl rfl
theorem xc_X12_501 : Cond.constantLong RX12 501 (8390898132396802048) ∈ xg := xg9 155 rfl rfl
theorem xc_X12_503 : Cond.constantLong RX12 503 (7377296907481120768) ∈ xg := xg9 156 rfl rfl
theorem xac_long : Cond.arrayClass .long ∈ xg := xg10 224 rfl rfl
theorem xc_X12_466 : Cond.constantLong RX12 466 (256) ∈ xg := xg11 1 rfl rfl
theorem xc_X12_597 : Cond.constant RX12 597 (65521) ∈ xg := xg11 101 rfl rfl
theorem xc_X12_679 : Cond.constantLong RX12 679 (8029918135601594368) ∈ xg := xg11 238 rfl rfl
theorem xc_X12_685 : Cond.constantLong RX12 685 (8097881595014283264) ∈ xg := xg12 3 rfl rfl
theorem xc_X12_697 : Cond.constantLong RX12 697 (7382085253155782656) ∈ xg := xg12 16 rfl rfl
theorem xc_X12_699 : Cond.constantLong RX12 699 (8530218420677902336) ∈ xg := xg12 17 rfl rfl
theorem xc_X12_848 : Cond.constant RX12 848 (1000000000) ∈ xg := xg12 130 rfl rfl
theorem xc_X12_823 : Cond.constantLong RX12 823 (7953758699401510912) ∈ xg := xg12 171 rfl rfl
theorem xc_X12_871 : Cond.constant RX12 871 (65535) ∈ xg := xg12 200 rfl rfl
theorem xc_X12_864 : Cond.constant RX12 864 (65536) ∈ xg := xg12 213 rfl rfl
theorem xc_L_123 : Cond.constantLong RL 123 (4294967295) ∈ xg := xg12 226 rfl rfl
