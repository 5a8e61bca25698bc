theorem cq_Worker_2 {A : Nat → Nat} {K : sh_II} {L : sh_DD} {t : Nat} {x : Int32}  (h : t < 6) : cw_ob A (sh_u2 K 2 t x) L (10 + t) = some (false, 1, (cw_wk A K L t).set 2 (.int x)) := by
  rw [(cw_ow h)]
  simp [cw_wk, sh_u2]
theorem cq_Worker_4 {A : Nat → Nat} {K : sh_II} {L : sh_DD} {t : Nat} {x : Int32}  (h : t < 6) : cw_ob A (sh_u2 K 4 t x) L (10 + t) = some (false, 1, (cw_wk A K L t).set 3 (.int x)) := by
  rw [(cw_ow h)]
  simp [cw_wk, sh_u2]
theorem cq_Worker_6 {A : Nat → Nat} {K : sh_II} {L : sh_DD} {t : Nat} {x : Int32}  (h : t < 6) : cw_ob A (sh_u2 K 6 t x) L (10 + t) = some (false, 1, (cw_wk A K L t).set 5 (.int x)) := by
  rw [(cw_ow h)]
  simp [cw_wk, sh_u2]
theorem cq_Worker_26 {A : Nat → Nat} {K : sh_II} {L : sh_DD} {t : Nat} {x : Int32}  (h : t < 6) : cw_ob A (sh_u2 K 26 t x) L (10 + t) = some (false, 1, (cw_wk A K L t).set 6 (.int x)) := by
  rw [(cw_ow h)]
  simp [cw_wk, sh_u2]
theorem cq_Worker_9 {A : Nat → Nat} {K : sh_II} {L : sh_DD} {t : Nat} {x : Int32}  (h : t < 6) : cw_ob A (sh_u2 K 9 t x) L (10 + t) = some (false, 1, (cw_wk A K L t).set 9 (.int x)) := by
  rw [(cw_ow h)]
  simp [cw_wk, sh_u2]
theorem cq_Worker_10 {A : Nat → Nat} {K : sh_II} {L : sh_DD} {t : Nat} {x : Int32}  (h : t < 6) : cw_ob A (sh_u2 K 10 t x) L (10 + t) = some (false, 1, (cw_wk A K L t).set 10 (.int x)) := by
  rw [(cw_ow h)]
  simp [cw_wk, sh_u2]
theorem cq_Worker_27 {A : Nat → Nat} {K : sh_II} {L : sh_DD} {t : Nat} {x : Int32}  (h : t < 6) : cw_ob A (sh_u2 K 27 t x) L (10 + t) = some (false, 1, (cw_wk A K L t).set 11 (.int x)) := by
  rw [(cw_ow h)]
  simp [cw_wk, sh_u2]
theorem cq_Worker_3 {A : Nat → Nat} {K : sh_II} {L : sh_DD} {t : Nat} {x : UInt64}  (h : t < 6) : cw_ob A K (sh_u2 L 3 t x) (10 + t) = some (false, 1, (cw_wk A K L t).set 1 (.double x)) := by
  rw [(cw_ow h)]
  simp [cw_wk, sh_u2]
theorem cq_Worker_7 {A : Nat → Nat} {K : sh_II} {L : sh_DD} {t : Nat} {x : UInt64}  (h : t < 6) : cw_ob A K (sh_u2 L 7 t x) (10 + t) = some (false, 1, (cw_wk A K L t).set 7 (.double x)) := by
  rw [(cw_ow h)]
  simp [cw_wk, sh_u2]
theorem cq_Worker_8 {A : Nat → Nat} {K : sh_II} {L : sh_DD} {t : Nat} {x : UInt64}  (h : t < 6) : cw_ob A K (sh_u2 L 8 t x) (10 + t) = some (false, 1, (cw_wk A K L t).set 8 (.double x)) := by
  rw [(cw_ow h)]
  simp [cw_wk, sh_u2]
theorem cq_Worker_5 {A : Nat → Nat} {K : sh_II} {L : sh_DD} {t : Nat}  {u : Nat} (h : t < 6) (hu : u < 8) : cw_ob A (sh_u2 K 5 t (nI u)) L (10 + t) = some (false, 1, (cw_wk A K L t).set 4 (.ref (A (20 + u)))) := by
  rw [(cw_ow h)]
  simp [cw_wk, sh_u2, cw_rf_n (A := A) (u := u) rfl (by omega)]
theorem cq_Worker_5_null {A : Nat → Nat} {K : sh_II} {L : sh_DD} {t : Nat}   (h : t < 6) : cw_ob A (sh_u2 K 5 t (-1)) L (10 + t) = some (false, 1, (cw_wk A K L t).set 4 (.null)) := by
  rw [(cw_ow h)]
  simp [cw_wk, sh_u2, cw_rf, cw_on_0, va_rf]
theorem cq_Lock_21 {A : Nat → Nat} {K : sh_II} {L : sh_DD} {s : Nat} {x : Int32}  (h : s < 8) (hk : cw_cl (K 12 s) = 4) : cw_ob A (sh_u2 K 21 s x) L (20 + s) = some (false, 4, (cw_lock A K L s).set 3 (.int x)) := by
  rw [(cw_ol h (by rw [sh_u2_row (by decide)]; exact hk))]
  simp [cw_lock, sh_u2]
theorem cq_Lock_20 {A : Nat → Nat} {K : sh_II} {L : sh_DD} {s : Nat} {x : UInt64}  (h : s < 8) (hk : cw_cl (K 12 s) = 4) : cw_ob A K (sh_u2 L 20 s x) (20 + s) = some (false, 4, (cw_lock A K L s).set 2 (.double x)) := by
  rw [(cw_ol h hk)]
  simp [cw_lock, sh_u2]
theorem cq_Lock_13 {A : Nat → Nat} {K : sh_II} {L : sh_DD} {s : Nat}  {u : Nat} (h : s < 8) (hk : cw_cl (K 12 s) = 4) (hu : u < 6) : cw_ob A (sh_u2 K 13 s (nI u)) L (20 + s) = some (false, 4, (cw_lock A K L s).set 4 (.ref (A (10 + u)))) := by
  rw [(cw_ol h (by rw [sh_u2_row (by decide)]; exact hk))]
  simp [cw_lock, sh_u2, cw_rf_n (A := A) (u := u) rfl (by omega)]
theorem cq_Lock_13_null {A : Nat → Nat} {K : sh_II} {L : sh_DD} {s : Nat}   (h : s < 8) (hk : cw_cl (K 12 s) = 4) : cw_ob A (sh_u2 K 13 s (-1)) L (20 + s) = some (false, 4, (cw_lock A K L s).set 4 (.null)) := by
  rw [(cw_ol h (by rw [sh_u2_row (by decide)]; exact hk))]
  simp [cw_lock, sh_u2, cw_rf, cw_on_0, va_rf]
theorem cq_Lock_14 {A : Nat → Nat} {K : sh_II} {L : sh_DD} {s : Nat} {x : Int32}  (h : s < 8) (hk : cw_cl (K 12 s) = 4) : cw_ob A (sh_u2 K 14 s x) L (20 + s) = some (false, 4, (cw_lock A K L s).set 5 (.int x)) := by
  rw [(cw_ol h (by rw [sh_u2_row (by decide)]; exact hk))]
  simp [cw_lock, sh_u2]
theorem cq_Semaphore_21 {A : Nat → Nat} {K : sh_II} {L : sh_DD} {s : Nat} {x : Int32}  (h : s < 8) (hk : cw_cl (K 12 s) = 5) : cw_ob A (sh_u2 K 21 s x) L (20 + s) = some (false, 5, (cw_sema A K L s).set 3 (.int x)) := by
  rw [(cw_oe h (by rw [sh_u2_row (by decide)]; exact hk))]
  simp [cw_sema, sh_u2]
theorem cq_Semaphore_20 {A : Nat → Nat} {K : sh_II} {L : sh_DD} {s : Nat} {x : UInt64}  (h : s < 8) (hk : cw_cl (K 12 s) = 5) : cw_ob A K (sh_u2 L 20 s x) (20 + s) = some (false, 5, (cw_sema A K L s).set 2 (.double x)) := by
  rw [(cw_oe h hk)]
  simp [cw_sema, sh_u2]
theorem cq_Semaphore_15 {A : Nat → Nat} {K : sh_II} {L : sh_DD} {s : Nat} {x : Int32}  (h : s < 8) (hk : cw_cl (K 12 s) = 5) : cw_ob A (sh_u2 K 15 s x) L (20 + s) = some (false, 5, (cw_sema A K L s).set 4 (.int x)) := by
  rw [(cw_oe h (by rw [sh_u2_row (by decide)]; exact hk))]
  simp [cw_sema, sh_u2]
theorem cq_Latch_21 {A : Nat → Nat} {K : sh_II} {L : sh_DD} {s : Nat} {x : Int32}  (h : s < 8) (hk : cw_cl (K 12 s) = 6) : cw_ob A (sh_u2 K 21 s x) L (20 + s) = some (false, 6, (cw_sema A K L s).set 3 (.int x)) := by
  rw [(cw_oa h (by rw [sh_u2_row (by decide)]; exact hk))]
  simp [cw_sema, sh_u2]
theorem cq_Latch_20 {A : Nat → Nat} {K : sh_II} {L : sh_DD} {s : Nat} {x : UInt64}  (h : s < 8) (hk : cw_cl (K 12 s) = 6) : cw_ob A K (sh_u2 L 20 s x) (20 + s) = some (false, 6, (cw_sema A K L s).set 2 (.double x)) := by
  rw [(cw_oa h hk)]
  simp [cw_sema, sh_u2]
theorem cq_Latch_15 {A : Nat → Nat} {K : sh_II} {L : sh_DD} {s : Nat} {x : Int32}  (h : s < 8) (hk : cw_cl (K 12 s) = 6) : cw_ob A (sh_u2 K 15 s x) L (20 + s) = some (false, 6, (cw_sema A K L s).set 4 (.int x)) := by
  rw [(cw_oa h (by rw [sh_u2_row (by decide)]; exact hk))]
  simp [cw_sema, sh_u2]
theorem cq_Shared_21 {A : Nat → Nat} {K : sh_II} {L : sh_DD} {s : Nat} {x : Int32}  (h : s < 8) (hk : cw_cl (K 12 s) = 7) : cw_ob A (sh_u2 K 21 s x) L (20 + s) = some (false, 7, (cw_shar A K L s).set 3 (.int x)) := by
  rw [(cw_oh h (by rw [sh_u2_row (by decide)]; exact hk))]
  simp [cw_shar, sh_u2]
theorem cq_Shared_20 {A : Nat → Nat} {K : sh_II} {L : sh_DD} {s : Nat} {x : UInt64}  (h : s < 8) (hk : cw_cl (K 12 s) = 7) : cw_ob A K (sh_u2 L 20 s x) (20 + s) = some (false, 7, (cw_shar A K L s).set 2 (.double x)) := by
  rw [(cw_oh h hk)]
  simp [cw_shar, sh_u2]
theorem cq_Shared_13 {A : Nat → Nat} {K : sh_II} {L : sh_DD} {s : Nat}  {u : Nat} (h : s < 8) (hk : cw_cl (K 12 s) = 7) (hu : u < 6) : cw_ob A (sh_u2 K 13 s (nI u)) L (20 + s) = some (false, 7, (cw_shar A K L s).set 5 (.ref (A (10 + u)))) := by
  rw [(cw_oh h (by rw [sh_u2_row (by decide)]; exact hk))]
  simp [cw_shar, sh_u2, cw_rf_n (A := A) (u := u) rfl (by omega)]
theorem cq_Shared_13_null {A : Nat → Nat} {K : sh_II} {L : sh_DD} {s : Nat}   (h : s < 8) (hk : cw_cl (K 12 s) = 7) : cw_ob A (sh_u2 K 13 s (-1)) L (20 + s) = some (false, 7, (cw_shar A K L s).set 5 (.null)) := by
  rw [(cw_oh h (by rw [sh_u2_row (by decide)]; exact hk))]
  simp [cw_shar, sh_u2, cw_rf, cw_on_0, va_rf]
theorem cq_Shared_14 {A : Nat → Nat} {K : sh_II} {L : sh_DD} {s : Nat} {x : Int32}  (h : s < 8) (hk : cw_cl (K 12 s) = 7) : cw_ob A (sh_u2 K 14 s x) L (20 + s) = some (false, 7, (cw_shar A K L s).set 6 (.int x)) := by
  rw [(cw_oh h (by rw [sh_u2_row (by decide)]; exact hk))]
  simp [cw_shar, sh_u2]
theorem cq_Condition_21 {A : Nat → Nat} {K : sh_II} {L : sh_DD} {s : Nat} {x : Int32}  (h : s < 8) (hk : cw_cl (K 12 s) = 8) : cw_ob A (sh_u2 K 21 s x) L (20 + s) = some (false, 8, (cw_cond A K L s).set 3 (.int x)) := by
  rw [(cw_oc h (by rw [sh_u2_row (by decide)]; exact hk))]
  simp [cw_cond, sh_u2]
theorem cq_Condition_20 {A : Nat → Nat} {K : sh_II} {L : sh_DD} {s : Nat} {x : UInt64}  (h : s < 8) (hk : cw_cl (K 12 s) = 8) : cw_ob A K (sh_u2 L 20 s x) (20 + s) = some (false, 8, (cw_cond A K L s).set 2 (.double x)) := by
  rw [(cw_oc h hk)]
  simp [cw_cond, sh_u2]
theorem cq_Waiters_19 {A : Nat → Nat} {K : sh_II} {L : sh_DD} {s : Nat} {x : Int32}  (h : s < 8) (hk : cw_cl (K 12 s) ≠ 0) : cw_ob A (sh_u2 K 19 s x) L (30 + s) = some (false, 2, (cw_wt A K s).set 1 (.int x)) := by
  rw [(cw_ot h (by rw [sh_u2_row (by decide)]; exact hk))]
  simp [cw_wt, sh_u2]
theorem cq_LockOrder_24 {A : Nat → Nat} {K : sh_II} {L : sh_DD}  {x : Int32}   : cw_ob A (sh_u2 K 24 0 x) L (3) = some (false, 3, (cw_ord A K).set 1 (.int x)) := by
  rw [cw_o3]
  simp [cw_ord, sh_u2]
theorem cq_LockOrder_25 {A : Nat → Nat} {K : sh_II} {L : sh_DD}  {x : Int32}   : cw_ob A (sh_u2 K 25 0 x) L (3) = some (false, 3, (cw_ord A K).set 2 (.int x)) := by
  rw [cw_o3]
  simp [cw_ord, sh_u2]
theorem cq_Hall_29 {A : Nat → Nat} {K : sh_II} {L : sh_DD}  {x : Int32}   : cw_ob A (sh_u2 K 29 0 x) L (0) = some (false, 0, (cw_hall A K L).set 3 (.int x)) := by
  rw [cw_o0]
  simp [cw_hall, sh_u2]
theorem cq_Hall_11 {A : Nat → Nat} {K : sh_II} {L : sh_DD}  {x : UInt64}   : cw_ob A K (sh_u2 L 11 0 x) (0) = some (false, 0, (cw_hall A K L).set 4 (.double x)) := by
  rw [cw_o0]
  simp [cw_hall, sh_u2]
theorem cq_aft_28 {A : Nat → Nat} {K : sh_II} {L : sh_DD} {k : Nat} {x : Int32} : cw_ob A (sh_u2 K 28 k x) L 4 = some (true, 0, sh_fa 8 (fun i => if i = k then .int x else .int (K 28 i))) := by
  rw [cw_o4]
  exact congrArg (fun z => some (true, 0, z)) (sh_fa_congr (fun j _ => by by_cases e : j = k <;> simp [sh_u2, e]))
theorem cq_rd_17 {A : Nat → Nat} {K : sh_II} {L : sh_DD} {s k : Nat} {x : Int32} (h : s < 8) (hk : cw_cl (K 12 s) = 7) (hl : k < 6) : cw_ob A (sh_u2 K 17 (6 * s + k) x) L (50 + s) = some (true, 0, sh_fa 6 (fun i => if i = k then .int x else .int (K 17 (6 * s + i)))) := by
  rw [cw_od h (by rw [sh_u2_row (by decide)]; exact hk)]
  exact congrArg (fun z => some (true, 0, z)) (sh_fa_congr (fun j _ => by by_cases e : j = k <;> simp [sh_u2, e]))
theorem cq_rw_18 {A : Nat → Nat} {K : sh_II} {L : sh_DD} {s k u : Nat} (h : s < 8) (hk : cw_cl (K 12 s) ≠ 0) (hl : k < 6) (hu : u < 6) : cw_ob A (sh_u2 K 18 (6 * s + k) (nI u)) L (40 + s) = some (true, 4, sh_fa 6 (fun i => if i = k then .ref (A (10 + u)) else cw_rf A 10 (K 18 (6 * s + i)))) := by
  rw [cw_or h (by rw [sh_u2_row (by decide)]; exact hk)]
  exact congrArg (fun z => some (true, 4, z)) (sh_fa_congr (fun j _ => by by_cases e : j = k <;> simp [sh_u2, e, cw_rf_n (A := A) (b := 10) (u := u) rfl (by omega)]))
theorem cw_nz {x : Int32} {c : Nat} (h : cw_cl x = c) (hc : c ≠ 0) : cw_cl x ≠ 0 := by rw [h]; exact hc
theorem sh_cst {A : Nat → Nat} {d : sh_Md} {f : sh_AF} {K K1 K' : sh_II} {L L1 L' : sh_DD} {cs ss : Nat} {r : Option Value ⊕ Nat} (eK : K = K1) (eL : L = L1) (k : sh_cW A d f K1 L1 cs ss r K' L') : sh_cW A d f K L cs ss r K' L' := by rw [eK, eL]; exact k
theorem sh_mst {mq : Nat} {A : Nat → Nat} {d : sh_Md} {f : sh_AF} {I I1 I' : sh_II} {D D1 D' : sh_DD} {cs ss : Nat} {r : Option Value} (eK : I = I1) (eL : D = D1) (k : sh_mW mq A d f I1 D1 cs ss r I' D') : sh_mW mq A d f I D cs ss r I' D' := by rw [eK, eL]; exact k
theorem sh_mlv {mq : Nat} {A : Nat → Nat} {d : sh_Md} {pc : Nat} {lv lv' : List (Nat × Value)} {st : List Value} {I I' : sh_II} {D D' : sh_DD} {cs ss : Nat} {v : Option Value} (ks : List Nat) (h : lv_pick lv ks = lv') (k : sh_mW mq A d (pc, lv', st) I D cs ss v I' D') : sh_mW mq A d (pc, lv, st) I D cs ss v I' D' := sh_mp (fun w Z k => sh_lvsub ks h k) k
