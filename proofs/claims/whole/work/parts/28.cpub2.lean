theorem sp_m0 {m : Int32} (h : m = 0 ∨ m = 1) : ¬ m < 0 := by rcases h with h | h <;> rw [h] <;> decide
theorem sp_m1 {m : Int32} (h : m = 0 ∨ m = 1) : m ≤ 1 := by rcases h with h | h <;> rw [h] <;> decide
theorem ct_Hall_acquire_x_1 {A : Nat → Nat} {K : sh_II} {L : sh_DD} {x : Int32} {o : Int32} {m : Int32} {y : UInt64} (c0_2 : x < 0) : sh_cM A md_Hall_acquire [.ref (A 0), .int x, .int o, .int m, .double y] K L (.inr 1) K L := by
  refine sh_cp (fun w Z k => sh_aload_n dc_Hall_acquire_0 rfl rfl k) ?_
  refine sh_cp (fun w Z k => sh_iload_n dc_Hall_acquire_1 rfl rfl k) ?_
  exact sh_ccallT (fun w hw => sh_virt (As := [.int x]) dc_Hall_acquire_2 lm_Hall_workerAt ln_Hall_62 wd_448 wd_3 rfl rfl (Nat.le_of_ble_eq_true rfl) (hw _ _ cw_o0) rfl) (ct_Hall_workerAt_x_1 (x := x) c0_2) ⟨(Nat.le_of_ble_eq_true rfl), (Nat.le_of_ble_eq_true rfl), (Nat.le_of_ble_eq_true rfl), (Nat.le_of_ble_eq_true rfl)⟩ rfl
theorem ct_Hall_acquire_x_2 {A : Nat → Nat} {K : sh_II} {L : sh_DD} {x : Int32} {o : Int32} {m : Int32} {y : UInt64} (c0_2 : ¬ x < 0) (c1_2 : ¬ x ≤ 5) : sh_cM A md_Hall_acquire [.ref (A 0), .int x, .int o, .int m, .double y] K L (.inr 1) K L := by
  refine sh_cp (fun w Z k => sh_aload_n dc_Hall_acquire_0 rfl rfl k) ?_
  refine sh_cp (fun w Z k => sh_iload_n dc_Hall_acquire_1 rfl rfl k) ?_
  exact sh_ccallT (fun w hw => sh_virt (As := [.int x]) dc_Hall_acquire_2 lm_Hall_workerAt ln_Hall_62 wd_448 wd_3 rfl rfl (Nat.le_of_ble_eq_true rfl) (hw _ _ cw_o0) rfl) (ct_Hall_workerAt_x_2 (x := x) c0_2 c1_2) ⟨(Nat.le_of_ble_eq_true rfl), (Nat.le_of_ble_eq_true rfl), (Nat.le_of_ble_eq_true rfl), (Nat.le_of_ble_eq_true rfl)⟩ rfl
theorem ct_Hall_acquire_t_1 {A : Nat → Nat} {K : sh_II} {L : sh_DD} {t : Nat} {x : Int32} {m : Int32} {y : UInt64} (ht : t < 6) (c0_10 : m < 0) : sh_cM A md_Hall_acquire [.ref (A 0), .int (nI t), .int x, .int m, .double y] K L (.inr 1) K L := by
  refine sh_cp (fun w Z k => sh_aload_n dc_Hall_acquire_0 rfl rfl k) ?_
  refine sh_cp (fun w Z k => sh_iload_n dc_Hall_acquire_1 rfl rfl k) ?_
  refine sh_ccall (fun w hw => sh_virt (As := [.int (nI t)]) dc_Hall_acquire_2 lm_Hall_workerAt ln_Hall_62 wd_448 wd_3 rfl rfl (Nat.le_of_ble_eq_true rfl) (hw _ _ cw_o0) rfl) (ct_Hall_workerAt_1 (t := t) (by omega)) ⟨(Nat.le_of_ble_eq_true rfl), (Nat.le_of_ble_eq_true rfl), (Nat.le_of_ble_eq_true rfl), (Nat.le_of_ble_eq_true rfl)⟩ ?_
  show sh_cW _ _ (_, _, [.ref (A (10 + t))]) K L _ _ _ _ _
  refine sh_cp (fun w Z k => sh_astore dc_Hall_acquire_5 (by decide) k) ?_
  refine sh_cp (fun w Z k => sh_iload_n dc_Hall_acquire_7 rfl rfl k) ?_
  refine sh_cp (fun w Z k => sh_iconst (v := 0) dc_Hall_acquire_8 (by decide) k) ?_
  refine sh_cp (fun w Z k => sh_iconst (v := 1) dc_Hall_acquire_9 (by decide) k) ?_
  exact sh_ccallT (fun w hw => sh_stat (As := [.int m, .int 0, .int 1]) dc_Hall_acquire_10 lm_Hall_checkNumber ln_Hall_39 wd_191 wd_49 rfl rfl (Nat.le_of_ble_eq_true rfl)) (ct_Hall_checkNumber_1 (x := m) (lo := 0) (hi := 1) c0_10) ⟨(Nat.le_of_ble_eq_true rfl), (Nat.le_of_ble_eq_true rfl), (Nat.le_of_ble_eq_true rfl), (Nat.le_of_ble_eq_true rfl)⟩ rfl
theorem ct_Hall_acquire_t_2 {A : Nat → Nat} {K : sh_II} {L : sh_DD} {t : Nat} {x : Int32} {m : Int32} {y : UInt64} (ht : t < 6) (c0_10 : ¬ m < 0) (c1_10 : m ≤ 1) (c2_19 : (Op.cmpValue (FP.dcmp y (FP.i2d (-1))) .l) < 0) : sh_cM A md_Hall_acquire [.ref (A 0), .int (nI t), .int x, .int m, .double y] K L (.inr 1) K L := by
  refine sh_cp (fun w Z k => sh_aload_n dc_Hall_acquire_0 rfl rfl k) ?_
  refine sh_cp (fun w Z k => sh_iload_n dc_Hall_acquire_1 rfl rfl k) ?_
  refine sh_ccall (fun w hw => sh_virt (As := [.int (nI t)]) dc_Hall_acquire_2 lm_Hall_workerAt ln_Hall_62 wd_448 wd_3 rfl rfl (Nat.le_of_ble_eq_true rfl) (hw _ _ cw_o0) rfl) (ct_Hall_workerAt_1 (t := t) (by omega)) ⟨(Nat.le_of_ble_eq_true rfl), (Nat.le_of_ble_eq_true rfl), (Nat.le_of_ble_eq_true rfl), (Nat.le_of_ble_eq_true rfl)⟩ ?_
  show sh_cW _ _ (_, _, [.ref (A (10 + t))]) K L _ _ _ _ _
  refine sh_cp (fun w Z k => sh_astore dc_Hall_acquire_5 (by decide) k) ?_
  refine sh_cp (fun w Z k => sh_iload_n dc_Hall_acquire_7 rfl rfl k) ?_
  refine sh_cp (fun w Z k => sh_iconst (v := 0) dc_Hall_acquire_8 (by decide) k) ?_
  refine sh_cp (fun w Z k => sh_iconst (v := 1) dc_Hall_acquire_9 (by decide) k) ?_
  refine sh_ccall (fun w hw => sh_stat (As := [.int m, .int 0, .int 1]) dc_Hall_acquire_10 lm_Hall_checkNumber ln_Hall_39 wd_191 wd_49 rfl rfl (Nat.le_of_ble_eq_true rfl)) (ct_Hall_checkNumber_2 (x := m) (lo := 0) (hi := 1) c0_10 c1_10) ⟨(Nat.le_of_ble_eq_true rfl), (Nat.le_of_ble_eq_true rfl), (Nat.le_of_ble_eq_true rfl), (Nat.le_of_ble_eq_true rfl)⟩ ?_
  show sh_cW _ _ (_, _, []) K L _ _ _ _ _
  refine sh_cp (fun w Z k => sh_dload dc_Hall_acquire_13 rfl k) ?_
  refine sh_cp (fun w Z k => sh_iconst (v := (-1)) dc_Hall_acquire_15 (by decide) k) ?_
  refine sh_cp (fun w Z k => sh_sipush (v := 1000) dc_Hall_acquire_16 (by decide) k) ?_
  exact sh_ccallT (fun w hw => sh_stat (As := [.double y, .int (-1), .int 1000]) dc_Hall_acquire_19 lm_Hall_checkAmount ln_Hall_66 wd_451 wd_49 rfl rfl (Nat.le_of_ble_eq_true rfl)) (ct_Hall_checkAmount_1 (x := y) (lo := (-1)) (hi := 1000) c2_19) ⟨(Nat.le_of_ble_eq_true rfl), (Nat.le_of_ble_eq_true rfl), (Nat.le_of_ble_eq_true rfl), (Nat.le_of_ble_eq_true rfl)⟩ rfl
theorem ct_Hall_acquire_t_3 {A : Nat → Nat} {K : sh_II} {L : sh_DD} {t : Nat} {x : Int32} {m : Int32} {y : UInt64} (ht : t < 6) (c0_10 : ¬ m < 0) (c1_10 : m ≤ 1) (c2_19 : ¬ (Op.cmpValue (FP.dcmp y (FP.i2d (-1))) .l) < 0) (c3_19 : (Op.cmpValue (FP.dcmp y (FP.i2d 1000)) .g) ≤ 0) (c4_24 : x < 0) : sh_cM A md_Hall_acquire [.ref (A 0), .int (nI t), .int x, .int m, .double y] K L (.inr 1) K L := by
  refine sh_cp (fun w Z k => sh_aload_n dc_Hall_acquire_0 rfl rfl k) ?_
  refine sh_cp (fun w Z k => sh_iload_n dc_Hall_acquire_1 rfl rfl k) ?_
  refine sh_ccall (fun w hw => sh_virt (As := [.int (nI t)]) dc_Hall_acquire_2 lm_Hall_workerAt ln_Hall_62 wd_448 wd_3 rfl rfl (Nat.le_of_ble_eq_true rfl) (hw _ _ cw_o0) rfl) (ct_Hall_workerAt_1 (t := t) (by omega)) ⟨(Nat.le_of_ble_eq_true rfl), (Nat.le_of_ble_eq_true rfl), (Nat.le_of_ble_eq_true rfl), (Nat.le_of_ble_eq_true rfl)⟩ ?_
  show sh_cW _ _ (_, _, [.ref (A (10 + t))]) K L _ _ _ _ _
  refine sh_cp (fun w Z k => sh_astore dc_Hall_acquire_5 (by decide) k) ?_
  refine sh_cp (fun w Z k => sh_iload_n dc_Hall_acquire_7 rfl rfl k) ?_
  refine sh_cp (fun w Z k => sh_iconst (v := 0) dc_Hall_acquire_8 (by decide) k) ?_
  refine sh_cp (fun w Z k => sh_iconst (v := 1) dc_Hall_acquire_9 (by decide) k) ?_
  refine sh_ccall (fun w hw => sh_stat (As := [.int m, .int 0, .int 1]) dc_Hall_acquire_10 lm_Hall_checkNumber ln_Hall_39 wd_191 wd_49 rfl rfl (Nat.le_of_ble_eq_true rfl)) (ct_Hall_checkNumber_2 (x := m) (lo := 0) (hi := 1) c0_10 c1_10) ⟨(Nat.le_of_ble_eq_true rfl), (Nat.le_of_ble_eq_true rfl), (Nat.le_of_ble_eq_true rfl), (Nat.le_of_ble_eq_true rfl)⟩ ?_
  show sh_cW _ _ (_, _, []) K L _ _ _ _ _
  refine sh_cp (fun w Z k => sh_dload dc_Hall_acquire_13 rfl k) ?_
  refine sh_cp (fun w Z k => sh_iconst (v := (-1)) dc_Hall_acquire_15 (by decide) k) ?_
  refine sh_cp (fun w Z k => sh_sipush (v := 1000) dc_Hall_acquire_16 (by decide) k) ?_
  refine sh_ccall (fun w hw => sh_stat (As := [.double y, .int (-1), .int 1000]) dc_Hall_acquire_19 lm_Hall_checkAmount ln_Hall_66 wd_451 wd_49 rfl rfl (Nat.le_of_ble_eq_true rfl)) (ct_Hall_checkAmount_2 (x := y) (lo := (-1)) (hi := 1000) c2_19 c3_19) ⟨(Nat.le_of_ble_eq_true rfl), (Nat.le_of_ble_eq_true rfl), (Nat.le_of_ble_eq_true rfl), (Nat.le_of_ble_eq_true rfl)⟩ ?_
  show sh_cW _ _ (_, _, []) K L _ _ _ _ _
  refine sh_cp (fun w Z k => sh_aload_n dc_Hall_acquire_22 rfl rfl k) ?_
  refine sh_cp (fun w Z k => sh_iload_n dc_Hall_acquire_23 rfl rfl k) ?_
  exact sh_ccallT (fun w hw => sh_virt (As := [.int x]) dc_Hall_acquire_24 lm_Hall_syncAt ln_Hall_73 wd_272 wd_2 rfl rfl (Nat.le_of_ble_eq_true rfl) (hw _ _ cw_o0) rfl) (ct_Hall_syncAt_x_1 (x := x) c4_24) ⟨(Nat.le_of_ble_eq_true rfl), (Nat.le_of_ble_eq_true rfl), (Nat.le_of_ble_eq_true rfl), (Nat.le_of_ble_eq_true rfl)⟩ rfl
theorem ct_Hall_acquire_t_4 {A : Nat → Nat} {K : sh_II} {L : sh_DD} {t : Nat} {x : Int32} {m : Int32} {y : UInt64} (ht : t < 6) (c0_10 : ¬ m < 0) (c1_10 : m ≤ 1) (c2_19 : ¬ (Op.cmpValue (FP.dcmp y (FP.i2d (-1))) .l) < 0) (c3_19 : (Op.cmpValue (FP.dcmp y (FP.i2d 1000)) .g) ≤ 0) (c4_24 : ¬ x < 0) (c5_24 : ¬ x ≤ 7) : sh_cM A md_Hall_acquire [.ref (A 0), .int (nI t), .int x, .int m, .double y] K L (.inr 1) K L := by
  refine sh_cp (fun w Z k => sh_aload_n dc_Hall_acquire_0 rfl rfl k) ?_
  refine sh_cp (fun w Z k => sh_iload_n dc_Hall_acquire_1 rfl rfl k) ?_
  refine sh_ccall (fun w hw => sh_virt (As := [.int (nI t)]) dc_Hall_acquire_2 lm_Hall_workerAt ln_Hall_62 wd_448 wd_3 rfl rfl (Nat.le_of_ble_eq_true rfl) (hw _ _ cw_o0) rfl) (ct_Hall_workerAt_1 (t := t) (by omega)) ⟨(Nat.le_of_ble_eq_true rfl), (Nat.le_of_ble_eq_true rfl), (Nat.le_of_ble_eq_true rfl), (Nat.le_of_ble_eq_true rfl)⟩ ?_
  show sh_cW _ _ (_, _, [.ref (A (10 + t))]) K L _ _ _ _ _
  refine sh_cp (fun w Z k => sh_astore dc_Hall_acquire_5 (by decide) k) ?_
  refine sh_cp (fun w Z k => sh_iload_n dc_Hall_acquire_7 rfl rfl k) ?_
  refine sh_cp (fun w Z k => sh_iconst (v := 0) dc_Hall_acquire_8 (by decide) k) ?_
  refine sh_cp (fun w Z k => sh_iconst (v := 1) dc_Hall_acquire_9 (by decide) k) ?_
  refine sh_ccall (fun w hw => sh_stat (As := [.int m, .int 0, .int 1]) dc_Hall_acquire_10 lm_Hall_checkNumber ln_Hall_39 wd_191 wd_49 rfl rfl (Nat.le_of_ble_eq_true rfl)) (ct_Hall_checkNumber_2 (x := m) (lo := 0) (hi := 1) c0_10 c1_10) ⟨(Nat.le_of_ble_eq_true rfl), (Nat.le_of_ble_eq_true rfl), (Nat.le_of_ble_eq_true rfl), (Nat.le_of_ble_eq_true rfl)⟩ ?_
  show sh_cW _ _ (_, _, []) K L _ _ _ _ _
  refine sh_cp (fun w Z k => sh_dload dc_Hall_acquire_13 rfl k) ?_
  refine sh_cp (fun w Z k => sh_iconst (v := (-1)) dc_Hall_acquire_15 (by decide) k) ?_
  refine sh_cp (fun w Z k => sh_sipush (v := 1000) dc_Hall_acquire_16 (by decide) k) ?_
  refine sh_ccall (fun w hw => sh_stat (As := [.double y, .int (-1), .int 1000]) dc_Hall_acquire_19 lm_Hall_checkAmount ln_Hall_66 wd_451 wd_49 rfl rfl (Nat.le_of_ble_eq_true rfl)) (ct_Hall_checkAmount_2 (x := y) (lo := (-1)) (hi := 1000) c2_19 c3_19) ⟨(Nat.le_of_ble_eq_true rfl), (Nat.le_of_ble_eq_true rfl), (Nat.le_of_ble_eq_true rfl), (Nat.le_of_ble_eq_true rfl)⟩ ?_
  show sh_cW _ _ (_, _, []) K L _ _ _ _ _
  refine sh_cp (fun w Z k => sh_aload_n dc_Hall_acquire_22 rfl rfl k) ?_
  refine sh_cp (fun w Z k => sh_iload_n dc_Hall_acquire_23 rfl rfl k) ?_
  exact sh_ccallT (fun w hw => sh_virt (As := [.int x]) dc_Hall_acquire_24 lm_Hall_syncAt ln_Hall_73 wd_272 wd_2 rfl rfl (Nat.le_of_ble_eq_true rfl) (hw _ _ cw_o0) rfl) (ct_Hall_syncAt_x_2 (x := x) c4_24 c5_24) ⟨(Nat.le_of_ble_eq_true rfl), (Nat.le_of_ble_eq_true rfl), (Nat.le_of_ble_eq_true rfl), (Nat.le_of_ble_eq_true rfl)⟩ rfl
theorem ct_Hall_acquire_t_5 {A : Nat → Nat} {K : sh_II} {L : sh_DD} {t : Nat} {x : Int32} {m : Int32} {y : UInt64} (ht : t < 6) (c0_10 : ¬ m < 0) (c1_10 : m ≤ 1) (c2_19 : ¬ (Op.cmpValue (FP.dcmp y (FP.i2d (-1))) .l) < 0) (c3_19 : ¬ (Op.cmpValue (FP.dcmp y (FP.i2d 1000)) .g) ≤ 0) : sh_cM A md_Hall_acquire [.ref (A 0), .int (nI t), .int x, .int m, .double y] K L (.inr 1) K L := by
  refine sh_cp (fun w Z k => sh_aload_n dc_Hall_acquire_0 rfl rfl k) ?_
  refine sh_cp (fun w Z k => sh_iload_n dc_Hall_acquire_1 rfl rfl k) ?_
  refine sh_ccall (fun w hw => sh_virt (As := [.int (nI t)]) dc_Hall_acquire_2 lm_Hall_workerAt ln_Hall_62 wd_448 wd_3 rfl rfl (Nat.le_of_ble_eq_true rfl) (hw _ _ cw_o0) rfl) (ct_Hall_workerAt_1 (t := t) (by omega)) ⟨(Nat.le_of_ble_eq_true rfl), (Nat.le_of_ble_eq_true rfl), (Nat.le_of_ble_eq_true rfl), (Nat.le_of_ble_eq_true rfl)⟩ ?_
  show sh_cW _ _ (_, _, [.ref (A (10 + t))]) K L _ _ _ _ _
  refine sh_cp (fun w Z k => sh_astore dc_Hall_acquire_5 (by decide) k) ?_
  refine sh_cp (fun w Z k => sh_iload_n dc_Hall_acquire_7 rfl rfl k) ?_
  refine sh_cp (fun w Z k => sh_iconst (v := 0) dc_Hall_acquire_8 (by decide) k) ?_
  refine sh_cp (fun w Z k => sh_iconst (v := 1) dc_Hall_acquire_9 (by decide) k) ?_
  refine sh_ccall (fun w hw => sh_stat (As := [.int m, .int 0, .int 1]) dc_Hall_acquire_10 lm_Hall_checkNumber ln_Hall_39 wd_191 wd_49 rfl rfl (Nat.le_of_ble_eq_true rfl)) (ct_Hall_checkNumber_2 (x := m) (lo := 0) (hi := 1) c0_10 c1_10) ⟨(Nat.le_of_ble_eq_true rfl), (Nat.le_of_ble_eq_true rfl), (Nat.le_of_ble_eq_true rfl), (Nat.le_of_ble_eq_true rfl)⟩ ?_
  show sh_cW _ _ (_, _, []) K L _ _ _ _ _
  refine sh_cp (fun w Z k => sh_dload dc_Hall_acquire_13 rfl k) ?_
  refine sh_cp (fun w Z k => sh_iconst (v := (-1)) dc_Hall_acquire_15 (by decide) k) ?_
  refine sh_cp (fun w Z k => sh_sipush (v := 1000) dc_Hall_acquire_16 (by decide) k) ?_
  exact sh_ccallT (fun w hw => sh_stat (As := [.double y, .int (-1), .int 1000]) dc_Hall_acquire_19 lm_Hall_checkAmount ln_Hall_66 wd_451 wd_49 rfl rfl (Nat.le_of_ble_eq_true rfl)) (ct_Hall_checkAmount_3 (x := y) (lo := (-1)) (hi := 1000) c2_19 c3_19) ⟨(Nat.le_of_ble_eq_true rfl), (Nat.le_of_ble_eq_true rfl), (Nat.le_of_ble_eq_true rfl), (Nat.le_of_ble_eq_true rfl)⟩ rfl
theorem ct_Hall_acquire_t_6 {A : Nat → Nat} {K : sh_II} {L : sh_DD} {t : Nat} {x : Int32} {m : Int32} {y : UInt64} (ht : t < 6) (c0_10 : ¬ m < 0) (c1_10 : ¬ m ≤ 1) : sh_cM A md_Hall_acquire [.ref (A 0), .int (nI t), .int x, .int m, .double y] K L (.inr 1) K L := by
  refine sh_cp (fun w Z k => sh_aload_n dc_Hall_acquire_0 rfl rfl k) ?_
  refine sh_cp (fun w Z k => sh_iload_n dc_Hall_acquire_1 rfl rfl k) ?_
  refine sh_ccall (fun w hw => sh_virt (As := [.int (nI t)]) dc_Hall_acquire_2 lm_Hall_workerAt ln_Hall_62 wd_448 wd_3 rfl rfl (Nat.le_of_ble_eq_true rfl) (hw _ _ cw_o0) rfl) (ct_Hall_workerAt_1 (t := t) (by omega)) ⟨(Nat.le_of_ble_eq_true rfl), (Nat.le_of_ble_eq_true rfl), (Nat.le_of_ble_eq_true rfl), (Nat.le_of_ble_eq_true rfl)⟩ ?_
  show sh_cW _ _ (_, _, [.ref (A (10 + t))]) K L _ _ _ _ _
  refine sh_cp (fun w Z k => sh_astore dc_Hall_acquire_5 (by decide) k) ?_
  refine sh_cp (fun w Z k => sh_iload_n dc_Hall_acquire_7 rfl rfl k) ?_
  refine sh_cp (fun w Z k => sh_iconst (v := 0) dc_Hall_acquire_8 (by decide) k) ?_
  refine sh_cp (fun w Z k => sh_iconst (v := 1) dc_Hall_acquire_9 (by decide) k) ?_
  exact sh_ccallT (fun w hw => sh_stat (As := [.int m, .int 0, .int 1]) dc_Hall_acquire_10 lm_Hall_checkNumber ln_Hall_39 wd_191 wd_49 rfl rfl (Nat.le_of_ble_eq_true rfl)) (ct_Hall_checkNumber_3 (x := m) (lo := 0) (hi := 1) c0_10 c1_10) ⟨(Nat.le_of_ble_eq_true rfl), (Nat.le_of_ble_eq_true rfl), (Nat.le_of_ble_eq_true rfl), (Nat.le_of_ble_eq_true rfl)⟩ rfl
theorem ct_Hall_acquire_none_1 {A : Nat → Nat} {K : sh_II} {L : sh_DD} {t : Nat} {s : Nat} {m : Int32} {y : UInt64} (ht : t < 6) (hs : s < 8) (hz0 : cw_cl (K 12 s) = 0) (hm : m = 0 ∨ m = 1) (hl1 : ¬ (Op.cmpValue (FP.dcmp y (FP.i2d (-1))) .l) < 0) (hl2 : (Op.cmpValue (FP.dcmp y (FP.i2d 1000)) .g) ≤ 0) : sh_cM A md_Hall_acquire [.ref (A 0), .int (nI t), .int (nI s), .int m, .double y] K L (.inr 2) K L := by
  refine sh_cp (fun w Z k => sh_aload_n dc_Hall_acquire_0 rfl rfl k) ?_
  refine sh_cp (fun w Z k => sh_iload_n dc_Hall_acquire_1 rfl rfl k) ?_
  refine sh_ccall (fun w hw => sh_virt (As := [.int (nI t)]) dc_Hall_acquire_2 lm_Hall_workerAt ln_Hall_62 wd_448 wd_3 rfl rfl (Nat.le_of_ble_eq_true rfl) (hw _ _ cw_o0) rfl) (ct_Hall_workerAt_1 (t := t) (by omega)) ⟨(Nat.le_of_ble_eq_true rfl), (Nat.le_of_ble_eq_true rfl), (Nat.le_of_ble_eq_true rfl), (Nat.le_of_ble_eq_true rfl)⟩ ?_
  show sh_cW _ _ (_, _, [.ref (A (10 + t))]) K L _ _ _ _ _
  refine sh_cp (fun w Z k => sh_astore dc_Hall_acquire_5 (by decide) k) ?_
  refine sh_cp (fun w Z k => sh_iload_n dc_Hall_acquire_7 rfl rfl k) ?_
  refine sh_cp (fun w Z k => sh_iconst (v := 0) dc_Hall_acquire_8 (by decide) k) ?_
  refine sh_cp (fun w Z k => sh_iconst (v := 1) dc_Hall_acquire_9 (by decide) k) ?_
  refine sh_ccall (fun w hw => sh_stat (As := [.int m, .int 0, .int 1]) dc_Hall_acquire_10 lm_Hall_checkNumber ln_Hall_39 wd_191 wd_49 rfl rfl (Nat.le_of_ble_eq_true rfl)) (ct_Hall_checkNumber_2 (x := m) (lo := 0) (hi := 1) (sp_m0 hm) (sp_m1 hm)) ⟨(Nat.le_of_ble_eq_true rfl), (Nat.le_of_ble_eq_true rfl), (Nat.le_of_ble_eq_true rfl), (Nat.le_of_ble_eq_true rfl)⟩ ?_
  show sh_cW _ _ (_, _, []) K L _ _ _ _ _
  refine sh_cp (fun w Z k => sh_dload dc_Hall_acquire_13 rfl k) ?_
  refine sh_cp (fun w Z k => sh_iconst (v := (-1)) dc_Hall_acquire_15 (by decide) k) ?_
  refine sh_cp (fun w Z k => sh_sipush (v := 1000) dc_Hall_acquire_16 (by decide) k) ?_
  refine sh_ccall (fun w hw => sh_stat (As := [.double y, .int (-1), .int 1000]) dc_Hall_acquire_19 lm_Hall_checkAmount ln_Hall_66 wd_451 wd_49 rfl rfl (Nat.le_of_ble_eq_true rfl)) (ct_Hall_checkAmount_2 (x := y) (lo := (-1)) (hi := 1000) hl1 hl2) ⟨(Nat.le_of_ble_eq_true rfl), (Nat.le_of_ble_eq_true rfl), (Nat.le_of_ble_eq_true rfl), (Nat.le_of_ble_eq_true rfl)⟩ ?_
  show sh_cW _ _ (_, _, []) K L _ _ _ _ _
  refine sh_cp (fun w Z k => sh_aload_n dc_Hall_acquire_22 rfl rfl k) ?_
  refine sh_cp (fun w Z k => sh_iload_n dc_Hall_acquire_23 rfl rfl k) ?_
  exact sh_ccallT (fun w hw => sh_virt (As := [.int (nI s)]) dc_Hall_acquire_24 lm_Hall_syncAt ln_Hall_73 wd_272 wd_2 rfl rfl (Nat.le_of_ble_eq_true rfl) (hw _ _ cw_o0) rfl) (ct_Hall_syncAt_1 (s := s) (by omega) hz0) ⟨(Nat.le_of_ble_eq_true rfl), (Nat.le_of_ble_eq_true rfl), (Nat.le_of_ble_eq_true rfl), (Nat.le_of_ble_eq_true rfl)⟩ rfl
theorem ct_Hall_acquire_Lockb_1 {A : Nat → Nat} {K : sh_II} {L : sh_DD} {t : Nat} {s : Nat} {m : Int32} {y : UInt64} {b : Nat} (ht : t < 6) (hs : s < 8) (hm : m = 0 ∨ m = 1) (hl1 : ¬ (Op.cmpValue (FP.dcmp y (FP.i2d (-1))) .l) < 0) (hl2 : (Op.cmpValue (FP.dcmp y (FP.i2d 1000)) .g) ≤ 0) (hb : b < 8) (eb : K 5 t = nI b) (hk_s : cw_cl (K 12 s) = 4) : sh_cM A md_Hall_acquire [.ref (A 0), .int (nI t), .int (nI s), .int m, .double y] K L (.inr 3) K L := by
  refine sh_cp (fun w Z k => sh_aload_n dc_Hall_acquire_0 rfl rfl k) ?_
  refine sh_cp (fun w Z k => sh_iload_n dc_Hall_acquire_1 rfl rfl k) ?_
  refine sh_ccall (fun w hw => sh_virt (As := [.int (nI t)]) dc_Hall_acquire_2 lm_Hall_workerAt ln_Hall_62 wd_448 wd_3 rfl rfl (Nat.le_of_ble_eq_true rfl) (hw _ _ cw_o0) rfl) (ct_Hall_workerAt_1 (t := t) (by omega)) ⟨(Nat.le_of_ble_eq_true rfl), (Nat.le_of_ble_eq_true rfl), (Nat.le_of_ble_eq_true rfl), (Nat.le_of_ble_eq_true rfl)⟩ ?_
  show sh_cW _ _ (_, _, [.ref (A (10 + t))]) K L _ _ _ _ _
  refine sh_cp (fun w Z k => sh_astore dc_Hall_acquire_5 (by decide) k) ?_
  refine sh_cp (fun w Z k => sh_iload_n dc_Hall_acquire_7 rfl rfl k) ?_
  refine sh_cp (fun w Z k => sh_iconst (v := 0) dc_Hall_acquire_8 (by decide) k) ?_
  refine sh_cp (fun w Z k => sh_iconst (v := 1) dc_Hall_acquire_9 (by decide) k) ?_
  refine sh_ccall (fun w hw => sh_stat (As := [.int m, .int 0, .int 1]) dc_Hall_acquire_10 lm_Hall_checkNumber ln_Hall_39 wd_191 wd_49 rfl rfl (Nat.le_of_ble_eq_true rfl)) (ct_Hall_checkNumber_2 (x := m) (lo := 0) (hi := 1) (sp_m0 hm) (sp_m1 hm)) ⟨(Nat.le_of_ble_eq_true rfl), (Nat.le_of_ble_eq_true rfl), (Nat.le_of_ble_eq_true rfl), (Nat.le_of_ble_eq_true rfl)⟩ ?_
  show sh_cW _ _ (_, _, []) K L _ _ _ _ _
  refine sh_cp (fun w Z k => sh_dload dc_Hall_acquire_13 rfl k) ?_
  refine sh_cp (fun w Z k => sh_iconst (v := (-1)) dc_Hall_acquire_15 (by decide) k) ?_
  refine sh_cp (fun w Z k => sh_sipush (v := 1000) dc_Hall_acquire_16 (by decide) k) ?_
  refine sh_ccall (fun w hw => sh_stat (As := [.double y, .int (-1), .int 1000]) dc_Hall_acquire_19 lm_Hall_checkAmount ln_Hall_66 wd_451 wd_49 rfl rfl (Nat.le_of_ble_eq_true rfl)) (ct_Hall_checkAmount_2 (x := y) (lo := (-1)) (hi := 1000) hl1 hl2) ⟨(Nat.le_of_ble_eq_true rfl), (Nat.le_of_ble_eq_true rfl), (Nat.le_of_ble_eq_true rfl), (Nat.le_of_ble_eq_true rfl)⟩ ?_
  show sh_cW _ _ (_, _, []) K L _ _ _ _ _
  refine sh_cp (fun w Z k => sh_aload_n dc_Hall_acquire_22 rfl rfl k) ?_
  refine sh_cp (fun w Z k => sh_iload_n dc_Hall_acquire_23 rfl rfl k) ?_
  refine sh_ccall (fun w hw => sh_virt (As := [.int (nI s)]) dc_Hall_acquire_24 lm_Hall_syncAt ln_Hall_73 wd_272 wd_2 rfl rfl (Nat.le_of_ble_eq_true rfl) (hw _ _ cw_o0) rfl) (ct_Hall_syncAt_2 (s := s) (by omega) (cw_nz hk_s (by decide))) ⟨(Nat.le_of_ble_eq_true rfl), (Nat.le_of_ble_eq_true rfl), (Nat.le_of_ble_eq_true rfl), (Nat.le_of_ble_eq_true rfl)⟩ ?_
  show sh_cW _ _ (_, _, [.ref (A (20 + s))]) K L _ _ _ _ _
  refine sh_cp (fun w Z k => sh_astore dc_Hall_acquire_27 (by decide) k) ?_
  refine sh_cp (fun w Z k => sh_aload dc_Hall_acquire_29 rfl k) ?_
  exact sh_ccallT (fun w hw => sh_stat (As := [.ref (A (10 + t))]) dc_Hall_acquire_31 lm_Hall_checkRunning ln_Hall_77 wd_463 wd_49 rfl rfl (Nat.le_of_ble_eq_true rfl)) (ct_Hall_checkRunning_2 (t := t) (u5_1 := b) (by omega) (by omega) eb) ⟨(Nat.le_of_ble_eq_true rfl), (Nat.le_of_ble_eq_true rfl), (Nat.le_of_ble_eq_true rfl), (Nat.le_of_ble_eq_true rfl)⟩ rfl
theorem ct_Hall_acquire_Semaphoreb_1 {A : Nat → Nat} {K : sh_II} {L : sh_DD} {t : Nat} {s : Nat} {m : Int32} {y : UInt64} {b : Nat} (ht : t < 6) (hs : s < 8) (hm : m = 0 ∨ m = 1) (hl1 : ¬ (Op.cmpValue (FP.dcmp y (FP.i2d (-1))) .l) < 0) (hl2 : (Op.cmpValue (FP.dcmp y (FP.i2d 1000)) .g) ≤ 0) (hb : b < 8) (eb : K 5 t = nI b) (hk_s : cw_cl (K 12 s) = 5) : sh_cM A md_Hall_acquire [.ref (A 0), .int (nI t), .int (nI s), .int m, .double y] K L (.inr 3) K L := by
  refine sh_cp (fun w Z k => sh_aload_n dc_Hall_acquire_0 rfl rfl k) ?_
  refine sh_cp (fun w Z k => sh_iload_n dc_Hall_acquire_1 rfl rfl k) ?_
  refine sh_ccall (fun w hw => sh_virt (As := [.int (nI t)]) dc_Hall_acquire_2 lm_Hall_workerAt ln_Hall_62 wd_448 wd_3 rfl rfl (Nat.le_of_ble_eq_true rfl) (hw _ _ cw_o0) rfl) (ct_Hall_workerAt_1 (t := t) (by omega)) ⟨(Nat.le_of_ble_eq_true rfl), (Nat.le_of_ble_eq_true rfl), (Nat.le_of_ble_eq_true rfl), (Nat.le_of_ble_eq_true rfl)⟩ ?_
  show sh_cW _ _ (_, _, [.ref (A (10 + t))]) K L _ _ _ _ _
  refine sh_cp (fun w Z k => sh_astore dc_Hall_acquire_5 (by decide) k) ?_
  refine sh_cp (fun w Z k => sh_iload_n dc_Hall_acquire_7 rfl rfl k) ?_
  refine sh_cp (fun w Z k => sh_iconst (v := 0) dc_Hall_acquire_8 (by decide) k) ?_
  refine sh_cp (fun w Z k => sh_iconst (v := 1) dc_Hall_acquire_9 (by decide) k) ?_
  refine sh_ccall (fun w hw => sh_stat (As := [.int m, .int 0, .int 1]) dc_Hall_acquire_10 lm_Hall_checkNumber ln_Hall_39 wd_191 wd_49 rfl rfl (Nat.le_of_ble_eq_true rfl)) (ct_Hall_checkNumber_2 (x := m) (lo := 0) (hi := 1) (sp_m0 hm) (sp_m1 hm)) ⟨(Nat.le_of_ble_eq_true rfl), (Nat.le_of_ble_eq_true rfl), (Nat.le_of_ble_eq_true rfl), (Nat.le_of_ble_eq_true rfl)⟩ ?_
  show sh_cW _ _ (_, _, []) K L _ _ _ _ _
  refine sh_cp (fun w Z k => sh_dload dc_Hall_acquire_13 rfl k) ?_
  refine sh_cp (fun w Z k => sh_iconst (v := (-1)) dc_Hall_acquire_15 (by decide) k) ?_
  refine sh_cp (fun w Z k => sh_sipush (v := 1000) dc_Hall_acquire_16 (by decide) k) ?_
  refine sh_ccall (fun w hw => sh_stat (As := [.double y, .int (-1), .int 1000]) dc_Hall_acquire_19 lm_Hall_checkAmount ln_Hall_66 wd_451 wd_49 rfl rfl (Nat.le_of_ble_eq_true rfl)) (ct_Hall_checkAmount_2 (x := y) (lo := (-1)) (hi := 1000) hl1 hl2) ⟨(Nat.le_of_ble_eq_true rfl), (Nat.le_of_ble_eq_true rfl), (Nat.le_of_ble_eq_true rfl), (Nat.le_of_ble_eq_true rfl)⟩ ?_
  show sh_cW _ _ (_, _, []) K L _ _ _ _ _
  refine sh_cp (fun w Z k => sh_aload_n dc_Hall_acquire_22 rfl rfl k) ?_
  refine sh_cp (fun w Z k => sh_iload_n dc_Hall_acquire_23 rfl rfl k) ?_
  refine sh_ccall (fun w hw => sh_virt (As := [.int (nI s)]) dc_Hall_acquire_24 lm_Hall_syncAt ln_Hall_73 wd_272 wd_2 rfl rfl (Nat.le_of_ble_eq_true rfl) (hw _ _ cw_o0) rfl) (ct_Hall_syncAt_2 (s := s) (by omega) (cw_nz hk_s (by decide))) ⟨(Nat.le_of_ble_eq_true rfl), (Nat.le_of_ble_eq_true rfl), (Nat.le_of_ble_eq_true rfl), (Nat.le_of_ble_eq_true rfl)⟩ ?_
  show sh_cW _ _ (_, _, [.ref (A (20 + s))]) K L _ _ _ _ _
  refine sh_cp (fun w Z k => sh_astore dc_Hall_acquire_27 (by decide) k) ?_
  refine sh_cp (fun w Z k => sh_aload dc_Hall_acquire_29 rfl k) ?_
  exact sh_ccallT (fun w hw => sh_stat (As := [.ref (A (10 + t))]) dc_Hall_acquire_31 lm_Hall_checkRunning ln_Hall_77 wd_463 wd_49 rfl rfl (Nat.le_of_ble_eq_true rfl)) (ct_Hall_checkRunning_2 (t := t) (u5_1 := b) (by omega) (by omega) eb) ⟨(Nat.le_of_ble_eq_true rfl), (Nat.le_of_ble_eq_true rfl), (Nat.le_of_ble_eq_true rfl), (Nat.le_of_ble_eq_true rfl)⟩ rfl
theorem ct_Hall_acquire_Latchb_1 {A : Nat → Nat} {K : sh_II} {L : sh_DD} {t : Nat} {s : Nat} {m : Int32} {y : UInt64} {b : Nat} (ht : t < 6) (hs : s < 8) (hm : m = 0 ∨ m = 1) (hl1 : ¬ (Op.cmpValue (FP.dcmp y (FP.i2d (-1))) .l) < 0) (hl2 : (Op.cmpValue (FP.dcmp y (FP.i2d 1000)) .g) ≤ 0) (hb : b < 8) (eb : K 5 t = nI b) (hk_s : cw_cl (K 12 s) = 6) : sh_cM A md_Hall_acquire [.ref (A 0), .int (nI t), .int (nI s), .int m, .double y] K L (.inr 3) K L := by
  refine sh_cp (fun w Z k => sh_aload_n dc_Hall_acquire_0 rfl rfl k) ?_
  refine sh_cp (fun w Z k => sh_iload_n dc_Hall_acquire_1 rfl rfl k) ?_
  refine sh_ccall (fun w hw => sh_virt (As := [.int (nI t)]) dc_Hall_acquire_2 lm_Hall_workerAt ln_Hall_62 wd_448 wd_3 rfl rfl (Nat.le_of_ble_eq_true rfl) (hw _ _ cw_o0) rfl) (ct_Hall_workerAt_1 (t := t) (by omega)) ⟨(Nat.le_of_ble_eq_true rfl), (Nat.le_of_ble_eq_true rfl), (Nat.le_of_ble_eq_true rfl), (Nat.le_of_ble_eq_true rfl)⟩ ?_
  show sh_cW _ _ (_, _, [.ref (A (10 + t))]) K L _ _ _ _ _
  refine sh_cp (fun w Z k => sh_astore dc_Hall_acquire_5 (by decide) k) ?_
  refine sh_cp (fun w Z k => sh_iload_n dc_Hall_acquire_7 rfl rfl k) ?_
  refine sh_cp (fun w Z k => sh_iconst (v := 0) dc_Hall_acquire_8 (by decide) k) ?_
  refine sh_cp (fun w Z k => sh_iconst (v := 1) dc_Hall_acquire_9 (by decide) k) ?_
  refine sh_ccall (fun w hw => sh_stat (As := [.int m, .int 0, .int 1]) dc_Hall_acquire_10 lm_Hall_checkNumber ln_Hall_39 wd_191 wd_49 rfl rfl (Nat.le_of_ble_eq_true rfl)) (ct_Hall_checkNumber_2 (x := m) (lo := 0) (hi := 1) (sp_m0 hm) (sp_m1 hm)) ⟨(Nat.le_of_ble_eq_true rfl), (Nat.le_of_ble_eq_true rfl), (Nat.le_of_ble_eq_true rfl), (Nat.le_of_ble_eq_true rfl)⟩ ?_
  show sh_cW _ _ (_, _, []) K L _ _ _ _ _
  refine sh_cp (fun w Z k => sh_dload dc_Hall_acquire_13 rfl k) ?_
  refine sh_cp (fun w Z k => sh_iconst (v := (-1)) dc_Hall_acquire_15 (by decide) k) ?_
  refine sh_cp (fun w Z k => sh_sipush (v := 1000) dc_Hall_acquire_16 (by decide) k) ?_
  refine sh_ccall (fun w hw => sh_stat (As := [.double y, .int (-1), .int 1000]) dc_Hall_acquire_19 lm_Hall_checkAmount ln_Hall_66 wd_451 wd_49 rfl rfl (Nat.le_of_ble_eq_true rfl)) (ct_Hall_checkAmount_2 (x := y) (lo := (-1)) (hi := 1000) hl1 hl2) ⟨(Nat.le_of_ble_eq_true rfl), (Nat.le_of_ble_eq_true rfl), (Nat.le_of_ble_eq_true rfl), (Nat.le_of_ble_eq_true rfl)⟩ ?_
  show sh_cW _ _ (_, _, []) K L _ _ _ _ _
  refine sh_cp (fun w Z k => sh_aload_n dc_Hall_acquire_22 rfl rfl k) ?_
  refine sh_cp (fun w Z k => sh_iload_n dc_Hall_acquire_23 rfl rfl k) ?_
  refine sh_ccall (fun w hw => sh_virt (As := [.int (nI s)]) dc_Hall_acquire_24 lm_Hall_syncAt ln_Hall_73 wd_272 wd_2 rfl rfl (Nat.le_of_ble_eq_true rfl) (hw _ _ cw_o0) rfl) (ct_Hall_syncAt_2 (s := s) (by omega) (cw_nz hk_s (by decide))) ⟨(Nat.le_of_ble_eq_true rfl), (Nat.le_of_ble_eq_true rfl), (Nat.le_of_ble_eq_true rfl), (Nat.le_of_ble_eq_true rfl)⟩ ?_
  show sh_cW _ _ (_, _, [.ref (A (20 + s))]) K L _ _ _ _ _
  refine sh_cp (fun w Z k => sh_astore dc_Hall_acquire_27 (by decide) k) ?_
  refine sh_cp (fun w Z k => sh_aload dc_Hall_acquire_29 rfl k) ?_
  exact sh_ccallT (fun w hw => sh_stat (As := [.ref (A (10 + t))]) dc_Hall_acquire_31 lm_Hall_checkRunning ln_Hall_77 wd_463 wd_49 rfl rfl (Nat.le_of_ble_eq_true rfl)) (ct_Hall_checkRunning_2 (t := t) (u5_1 := b) (by omega) (by omega) eb) ⟨(Nat.le_of_ble_eq_true rfl), (Nat.le_of_ble_eq_true rfl), (Nat.le_of_ble_eq_true rfl), (Nat.le_of_ble_eq_true rfl)⟩ rfl
theorem ct_Hall_acquire_Sharedb_1 {A : Nat → Nat} {K : sh_II} {L : sh_DD} {t : Nat} {s : Nat} {m : Int32} {y : UInt64} {b : Nat} (ht : t < 6) (hs : s < 8) (hm : m = 0 ∨ m = 1) (hl1 : ¬ (Op.cmpValue (FP.dcmp y (FP.i2d (-1))) .l) < 0) (hl2 : (Op.cmpValue (FP.dcmp y (FP.i2d 1000)) .g) ≤ 0) (hb : b < 8) (eb : K 5 t = nI b) (hk_s : cw_cl (K 12 s) = 7) : sh_cM A md_Hall_acquire [.ref (A 0), .int (nI t), .int (nI s), .int m, .double y] K L (.inr 3) K L := by
  refine sh_cp (fun w Z k => sh_aload_n dc_Hall_acquire_0 rfl rfl k) ?_
  refine sh_cp (fun w Z k => sh_iload_n dc_Hall_acquire_1 rfl rfl k) ?_
  refine sh_ccall (fun w hw => sh_virt (As := [.int (nI t)]) dc_Hall_acquire_2 lm_Hall_workerAt ln_Hall_62 wd_448 wd_3 rfl rfl (Nat.le_of_ble_eq_true rfl) (hw _ _ cw_o0) rfl) (ct_Hall_workerAt_1 (t := t) (by omega)) ⟨(Nat.le_of_ble_eq_true rfl), (Nat.le_of_ble_eq_true rfl), (Nat.le_of_ble_eq_true rfl), (Nat.le_of_ble_eq_true rfl)⟩ ?_
  show sh_cW _ _ (_, _, [.ref (A (10 + t))]) K L _ _ _ _ _
  refine sh_cp (fun w Z k => sh_astore dc_Hall_acquire_5 (by decide) k) ?_
  refine sh_cp (fun w Z k => sh_iload_n dc_Hall_acquire_7 rfl rfl k) ?_
  refine sh_cp (fun w Z k => sh_iconst (v := 0) dc_Hall_acquire_8 (by decide) k) ?_
  refine sh_cp (fun w Z k => sh_iconst (v := 1) dc_Hall_acquire_9 (by decide) k) ?_
  refine sh_ccall (fun w hw => sh_stat (As := [.int m, .int 0, .int 1]) dc_Hall_acquire_10 lm_Hall_checkNumber ln_Hall_39 wd_191 wd_49 rfl rfl (Nat.le_of_ble_eq_true rfl)) (ct_Hall_checkNumber_2 (x := m) (lo := 0) (hi := 1) (sp_m0 hm) (sp_m1 hm)) ⟨(Nat.le_of_ble_eq_true rfl), (Nat.le_of_ble_eq_true rfl), (Nat.le_of_ble_eq_true rfl), (Nat.le_of_ble_eq_true rfl)⟩ ?_
  show sh_cW _ _ (_, _, []) K L _ _ _ _ _
  refine sh_cp (fun w Z k => sh_dload dc_Hall_acquire_13 rfl k) ?_
  refine sh_cp (fun w Z k => sh_iconst (v := (-1)) dc_Hall_acquire_15 (by decide) k) ?_
  refine sh_cp (fun w Z k => sh_sipush (v := 1000) dc_Hall_acquire_16 (by decide) k) ?_
  refine sh_ccall (fun w hw => sh_stat (As := [.double y, .int (-1), .int 1000]) dc_Hall_acquire_19 lm_Hall_checkAmount ln_Hall_66 wd_451 wd_49 rfl rfl (Nat.le_of_ble_eq_true rfl)) (ct_Hall_checkAmount_2 (x := y) (lo := (-1)) (hi := 1000) hl1 hl2) ⟨(Nat.le_of_ble_eq_true rfl), (Nat.le_of_ble_eq_true rfl), (Nat.le_of_ble_eq_true rfl), (Nat.le_of_ble_eq_true rfl)⟩ ?_
  show sh_cW _ _ (_, _, []) K L _ _ _ _ _
  refine sh_cp (fun w Z k => sh_aload_n dc_Hall_acquire_22 rfl rfl k) ?_
  refine sh_cp (fun w Z k => sh_iload_n dc_Hall_acquire_23 rfl rfl k) ?_
  refine sh_ccall (fun w hw => sh_virt (As := [.int (nI s)]) dc_Hall_acquire_24 lm_Hall_syncAt ln_Hall_73 wd_272 wd_2 rfl rfl (Nat.le_of_ble_eq_true rfl) (hw _ _ cw_o0) rfl) (ct_Hall_syncAt_2 (s := s) (by omega) (cw_nz hk_s (by decide))) ⟨(Nat.le_of_ble_eq_true rfl), (Nat.le_of_ble_eq_true rfl), (Nat.le_of_ble_eq_true rfl), (Nat.le_of_ble_eq_true rfl)⟩ ?_
  show sh_cW _ _ (_, _, [.ref (A (20 + s))]) K L _ _ _ _ _
  refine sh_cp (fun w Z k => sh_astore dc_Hall_acquire_27 (by decide) k) ?_
  refine sh_cp (fun w Z k => sh_aload dc_Hall_acquire_29 rfl k) ?_
  exact sh_ccallT (fun w hw => sh_stat (As := [.ref (A (10 + t))]) dc_Hall_acquire_31 lm_Hall_checkRunning ln_Hall_77 wd_463 wd_49 rfl rfl (Nat.le_of_ble_eq_true rfl)) (ct_Hall_checkRunning_2 (t := t) (u5_1 := b) (by omega) (by omega) eb) ⟨(Nat.le_of_ble_eq_true rfl), (Nat.le_of_ble_eq_true rfl), (Nat.le_of_ble_eq_true rfl), (Nat.le_of_ble_eq_true rfl)⟩ rfl
theorem ct_Hall_acquire_Conditionb_1 {A : Nat → Nat} {K : sh_II} {L : sh_DD} {t : Nat} {s : Nat} {m : Int32} {y : UInt64} {b : Nat} (ht : t < 6) (hs : s < 8) (hm : m = 0 ∨ m = 1) (hl1 : ¬ (Op.cmpValue (FP.dcmp y (FP.i2d (-1))) .l) < 0) (hl2 : (Op.cmpValue (FP.dcmp y (FP.i2d 1000)) .g) ≤ 0) (hb : b < 8) (eb : K 5 t = nI b) (hk_s : cw_cl (K 12 s) = 8) : sh_cM A md_Hall_acquire [.ref (A 0), .int (nI t), .int (nI s), .int m, .double y] K L (.inr 3) K L := by
  refine sh_cp (fun w Z k => sh_aload_n dc_Hall_acquire_0 rfl rfl k) ?_
  refine sh_cp (fun w Z k => sh_iload_n dc_Hall_acquire_1 rfl rfl k) ?_
  refine sh_ccall (fun w hw => sh_virt (As := [.int (nI t)]) dc_Hall_acquire_2 lm_Hall_workerAt ln_Hall_62 wd_448 wd_3 rfl rfl (Nat.le_of_ble_eq_true rfl) (hw _ _ cw_o0) rfl) (ct_Hall_workerAt_1 (t := t) (by omega)) ⟨(Nat.le_of_ble_eq_true rfl), (Nat.le_of_ble_eq_true rfl), (Nat.le_of_ble_eq_true rfl), (Nat.le_of_ble_eq_true rfl)⟩ ?_
  show sh_cW _ _ (_, _, [.ref (A (10 + t))]) K L _ _ _ _ _
  refine sh_cp (fun w Z k => sh_astore dc_Hall_acquire_5 (by decide) k) ?_
  refine sh_cp (fun w Z k => sh_iload_n dc_Hall_acquire_7 rfl rfl k) ?_
  refine sh_cp (fun w Z k => sh_iconst (v := 0) dc_Hall_acquire_8 (by decide) k) ?_
  refine sh_cp (fun w Z k => sh_iconst (v := 1) dc_Hall_acquire_9 (by decide) k) ?_
  refine sh_ccall (fun w hw => sh_stat (As := [.int m, .int 0, .int 1]) dc_Hall_acquire_10 lm_Hall_checkNumber ln_Hall_39 wd_191 wd_49 rfl rfl (Nat.le_of_ble_eq_true rfl)) (ct_Hall_checkNumber_2 (x := m) (lo := 0) (hi := 1) (sp_m0 hm) (sp_m1 hm)) ⟨(Nat.le_of_ble_eq_true rfl), (Nat.le_of_ble_eq_true rfl), (Nat.le_of_ble_eq_true rfl), (Nat.le_of_ble_eq_true rfl)⟩ ?_
  show sh_cW _ _ (_, _, []) K L _ _ _ _ _
  refine sh_cp (fun w Z k => sh_dload dc_Hall_acquire_13 rfl k) ?_
  refine sh_cp (fun w Z k => sh_iconst (v := (-1)) dc_Hall_acquire_15 (by decide) k) ?_
  refine sh_cp (fun w Z k => sh_sipush (v := 1000) dc_Hall_acquire_16 (by decide) k) ?_
  refine sh_ccall (fun w hw => sh_stat (As := [.double y, .int (-1), .int 1000]) dc_Hall_acquire_19 lm_Hall_checkAmount ln_Hall_66 wd_451 wd_49 rfl rfl (Nat.le_of_ble_eq_true rfl)) (ct_Hall_checkAmount_2 (x := y) (lo := (-1)) (hi := 1000) hl1 hl2) ⟨(Nat.le_of_ble_eq_true rfl), (Nat.le_of_ble_eq_true rfl), (Nat.le_of_ble_eq_true rfl), (Nat.le_of_ble_eq_true rfl)⟩ ?_
  show sh_cW _ _ (_, _, []) K L _ _ _ _ _
  refine sh_cp (fun w Z k => sh_aload_n dc_Hall_acquire_22 rfl rfl k) ?_
  refine sh_cp (fun w Z k => sh_iload_n dc_Hall_acquire_23 rfl rfl k) ?_
  refine sh_ccall (fun w hw => sh_virt (As := [.int (nI s)]) dc_Hall_acquire_24 lm_Hall_syncAt ln_Hall_73 wd_272 wd_2 rfl rfl (Nat.le_of_ble_eq_true rfl) (hw _ _ cw_o0) rfl) (ct_Hall_syncAt_2 (s := s) (by omega) (cw_nz hk_s (by decide))) ⟨(Nat.le_of_ble_eq_true rfl), (Nat.le_of_ble_eq_true rfl), (Nat.le_of_ble_eq_true rfl), (Nat.le_of_ble_eq_true rfl)⟩ ?_
  show sh_cW _ _ (_, _, [.ref (A (20 + s))]) K L _ _ _ _ _
  refine sh_cp (fun w Z k => sh_astore dc_Hall_acquire_27 (by decide) k) ?_
  refine sh_cp (fun w Z k => sh_aload dc_Hall_acquire_29 rfl k) ?_
  exact sh_ccallT (fun w hw => sh_stat (As := [.ref (A (10 + t))]) dc_Hall_acquire_31 lm_Hall_checkRunning ln_Hall_77 wd_463 wd_49 rfl rfl (Nat.le_of_ble_eq_true rfl)) (ct_Hall_checkRunning_2 (t := t) (u5_1 := b) (by omega) (by omega) eb) ⟨(Nat.le_of_ble_eq_true rfl), (Nat.le_of_ble_eq_true rfl), (Nat.le_of_ble_eq_true rfl), (Nat.le_of_ble_eq_true rfl)⟩ rfl
theorem ct_Hall_acquire_Condition_1 {A : Nat → Nat} {K : sh_II} {L : sh_DD} {t : Nat} {s : Nat} {m : Int32} {y : UInt64} (ht : t < 6) (hs : s < 8) (hm : m = 0 ∨ m = 1) (hl1 : ¬ (Op.cmpValue (FP.dcmp y (FP.i2d (-1))) .l) < 0) (hl2 : (Op.cmpValue (FP.dcmp y (FP.i2d 1000)) .g) ≤ 0) (hp : (K 5 t) = -1) (hk_s : cw_cl (K 12 s) = 8) : sh_cM A md_Hall_acquire [.ref (A 0), .int (nI t), .int (nI s), .int m, .double y] K L (.inr 4) K L := by
  refine sh_cp (fun w Z k => sh_aload_n dc_Hall_acquire_0 rfl rfl k) ?_
  refine sh_cp (fun w Z k => sh_iload_n dc_Hall_acquire_1 rfl rfl k) ?_
  refine sh_ccall (fun w hw => sh_virt (As := [.int (nI t)]) dc_Hall_acquire_2 lm_Hall_workerAt ln_Hall_62 wd_448 wd_3 rfl rfl (Nat.le_of_ble_eq_true rfl) (hw _ _ cw_o0) rfl) (ct_Hall_workerAt_1 (t := t) (by omega)) ⟨(Nat.le_of_ble_eq_true rfl), (Nat.le_of_ble_eq_true rfl), (Nat.le_of_ble_eq_true rfl), (Nat.le_of_ble_eq_true rfl)⟩ ?_
  show sh_cW _ _ (_, _, [.ref (A (10 + t))]) K L _ _ _ _ _
  refine sh_cp (fun w Z k => sh_astore dc_Hall_acquire_5 (by decide) k) ?_
  refine sh_cp (fun w Z k => sh_iload_n dc_Hall_acquire_7 rfl rfl k) ?_
  refine sh_cp (fun w Z k => sh_iconst (v := 0) dc_Hall_acquire_8 (by decide) k) ?_
  refine sh_cp (fun w Z k => sh_iconst (v := 1) dc_Hall_acquire_9 (by decide) k) ?_
  refine sh_ccall (fun w hw => sh_stat (As := [.int m, .int 0, .int 1]) dc_Hall_acquire_10 lm_Hall_checkNumber ln_Hall_39 wd_191 wd_49 rfl rfl (Nat.le_of_ble_eq_true rfl)) (ct_Hall_checkNumber_2 (x := m) (lo := 0) (hi := 1) (sp_m0 hm) (sp_m1 hm)) ⟨(Nat.le_of_ble_eq_true rfl), (Nat.le_of_ble_eq_true rfl), (Nat.le_of_ble_eq_true rfl), (Nat.le_of_ble_eq_true rfl)⟩ ?_
  show sh_cW _ _ (_, _, []) K L _ _ _ _ _
  refine sh_cp (fun w Z k => sh_dload dc_Hall_acquire_13 rfl k) ?_
  refine sh_cp (fun w Z k => sh_iconst (v := (-1)) dc_Hall_acquire_15 (by decide) k) ?_
  refine sh_cp (fun w Z k => sh_sipush (v := 1000) dc_Hall_acquire_16 (by decide) k) ?_
  refine sh_ccall (fun w hw => sh_stat (As := [.double y, .int (-1), .int 1000]) dc_Hall_acquire_19 lm_Hall_checkAmount ln_Hall_66 wd_451 wd_49 rfl rfl (Nat.le_of_ble_eq_true rfl)) (ct_Hall_checkAmount_2 (x := y) (lo := (-1)) (hi := 1000) hl1 hl2) ⟨(Nat.le_of_ble_eq_true rfl), (Nat.le_of_ble_eq_true rfl), (Nat.le_of_ble_eq_true rfl), (Nat.le_of_ble_eq_true rfl)⟩ ?_
  show sh_cW _ _ (_, _, []) K L _ _ _ _ _
  refine sh_cp (fun w Z k => sh_aload_n dc_Hall_acquire_22 rfl rfl k) ?_
  refine sh_cp (fun w Z k => sh_iload_n dc_Hall_acquire_23 rfl rfl k) ?_
  refine sh_ccall (fun w hw => sh_virt (As := [.int (nI s)]) dc_Hall_acquire_24 lm_Hall_syncAt ln_Hall_73 wd_272 wd_2 rfl rfl (Nat.le_of_ble_eq_true rfl) (hw _ _ cw_o0) rfl) (ct_Hall_syncAt_2 (s := s) (by omega) (cw_nz hk_s (by decide))) ⟨(Nat.le_of_ble_eq_true rfl), (Nat.le_of_ble_eq_true rfl), (Nat.le_of_ble_eq_true rfl), (Nat.le_of_ble_eq_true rfl)⟩ ?_
  show sh_cW _ _ (_, _, [.ref (A (20 + s))]) K L _ _ _ _ _
  refine sh_cp (fun w Z k => sh_astore dc_Hall_acquire_27 (by decide) k) ?_
  refine sh_cp (fun w Z k => sh_aload dc_Hall_acquire_29 rfl k) ?_
  refine sh_ccall (fun w hw => sh_stat (As := [.ref (A (10 + t))]) dc_Hall_acquire_31 lm_Hall_checkRunning ln_Hall_77 wd_463 wd_49 rfl rfl (Nat.le_of_ble_eq_true rfl)) (ct_Hall_checkRunning_1 (t := t) (by omega) hp) ⟨(Nat.le_of_ble_eq_true rfl), (Nat.le_of_ble_eq_true rfl), (Nat.le_of_ble_eq_true rfl), (Nat.le_of_ble_eq_true rfl)⟩ ?_
  show sh_cW _ _ (_, _, []) K L _ _ _ _ _
  refine sh_cp (fun w Z k => sh_aload dc_Hall_acquire_34 rfl k) ?_
  exact sh_ccallT (fun w hw => sh_stat (As := [.ref (A (20 + s))]) dc_Hall_acquire_36 lm_Hall_gateOf ln_Hall_81 wd_471 wd_49 rfl rfl (Nat.le_of_ble_eq_true rfl)) (ct_Hall_gateOf_Condition_1 (s := s) (by omega) hk_s) ⟨(Nat.le_of_ble_eq_true rfl), (Nat.le_of_ble_eq_true rfl), (Nat.le_of_ble_eq_true rfl), (Nat.le_of_ble_eq_true rfl)⟩ rfl
theorem ct_Hall_acquire_Lock_1 {A : Nat → Nat} {K : sh_II} {L : sh_DD} {t : Nat} {s : Nat} {m : Int32} {y : UInt64} {l : List Nat} (ht : t < 6) (hs : s < 8) (hm : m = 0 ∨ m = 1) (hl1 : ¬ (Op.cmpValue (FP.dcmp y (FP.i2d (-1))) .l) < 0) (hl2 : (Op.cmpValue (FP.dcmp y (FP.i2d 1000)) .g) ≤ 0) (hp : (K 5 t) = -1) (ho : cw_okr K) (hr : cw_row K s l) (hlen : l.length < 6) (hk_s : cw_cl (K 12 s) = 4) (v0_43 : narrow .boolean (.int (K 2 t)) = .int (K 2 t)) (c1_46 : (K 2 t) = 0) (c2_62 : sp_kt (sh_u2 K 2 t 0) t s = true) : sh_cM A md_Hall_acquire [.ref (A 0), .int (nI t), .int (nI s), .int m, .double y] K L (.inr 4) (sh_u2 (sh_u2 K 2 t 0) 25 0 (((sh_u2 K 2 t 0) 25 0) + 1)) L := by
  refine sh_cp (fun w Z k => sh_aload_n dc_Hall_acquire_0 rfl rfl k) ?_
  refine sh_cp (fun w Z k => sh_iload_n dc_Hall_acquire_1 rfl rfl k) ?_
  refine sh_ccall (fun w hw => sh_virt (As := [.int (nI t)]) dc_Hall_acquire_2 lm_Hall_workerAt ln_Hall_62 wd_448 wd_3 rfl rfl (Nat.le_of_ble_eq_true rfl) (hw _ _ cw_o0) rfl) (ct_Hall_workerAt_1 (t := t) (by omega)) ⟨(Nat.le_of_ble_eq_true rfl), (Nat.le_of_ble_eq_true rfl), (Nat.le_of_ble_eq_true rfl), (Nat.le_of_ble_eq_true rfl)⟩ ?_
  show sh_cW _ _ (_, _, [.ref (A (10 + t))]) K L _ _ _ _ _
  refine sh_cp (fun w Z k => sh_astore dc_Hall_acquire_5 (by decide) k) ?_
  refine sh_cp (fun w Z k => sh_iload_n dc_Hall_acquire_7 rfl rfl k) ?_
  refine sh_cp (fun w Z k => sh_iconst (v := 0) dc_Hall_acquire_8 (by decide) k) ?_
  refine sh_cp (fun w Z k => sh_iconst (v := 1) dc_Hall_acquire_9 (by decide) k) ?_
  refine sh_ccall (fun w hw => sh_stat (As := [.int m, .int 0, .int 1]) dc_Hall_acquire_10 lm_Hall_checkNumber ln_Hall_39 wd_191 wd_49 rfl rfl (Nat.le_of_ble_eq_true rfl)) (ct_Hall_checkNumber_2 (x := m) (lo := 0) (hi := 1) (sp_m0 hm) (sp_m1 hm)) ⟨(Nat.le_of_ble_eq_true rfl), (Nat.le_of_ble_eq_true rfl), (Nat.le_of_ble_eq_true rfl), (Nat.le_of_ble_eq_true rfl)⟩ ?_
  show sh_cW _ _ (_, _, []) K L _ _ _ _ _
  refine sh_cp (fun w Z k => sh_dload dc_Hall_acquire_13 rfl k) ?_
  refine sh_cp (fun w Z k => sh_iconst (v := (-1)) dc_Hall_acquire_15 (by decide) k) ?_
  refine sh_cp (fun w Z k => sh_sipush (v := 1000) dc_Hall_acquire_16 (by decide) k) ?_
  refine sh_ccall (fun w hw => sh_stat (As := [.double y, .int (-1), .int 1000]) dc_Hall_acquire_19 lm_Hall_checkAmount ln_Hall_66 wd_451 wd_49 rfl rfl (Nat.le_of_ble_eq_true rfl)) (ct_Hall_checkAmount_2 (x := y) (lo := (-1)) (hi := 1000) hl1 hl2) ⟨(Nat.le_of_ble_eq_true rfl), (Nat.le_of_ble_eq_true rfl), (Nat.le_of_ble_eq_true rfl), (Nat.le_of_ble_eq_true rfl)⟩ ?_
  show sh_cW _ _ (_, _, []) K L _ _ _ _ _
  refine sh_cp (fun w Z k => sh_aload_n dc_Hall_acquire_22 rfl rfl k) ?_
  refine sh_cp (fun w Z k => sh_iload_n dc_Hall_acquire_23 rfl rfl k) ?_
  refine sh_ccall (fun w hw => sh_virt (As := [.int (nI s)]) dc_Hall_acquire_24 lm_Hall_syncAt ln_Hall_73 wd_272 wd_2 rfl rfl (Nat.le_of_ble_eq_true rfl) (hw _ _ cw_o0) rfl) (ct_Hall_syncAt_2 (s := s) (by omega) (cw_nz hk_s (by decide))) ⟨(Nat.le_of_ble_eq_true rfl), (Nat.le_of_ble_eq_true rfl), (Nat.le_of_ble_eq_true rfl), (Nat.le_of_ble_eq_true rfl)⟩ ?_
  show sh_cW _ _ (_, _, [.ref (A (20 + s))]) K L _ _ _ _ _
  refine sh_cp (fun w Z k => sh_astore dc_Hall_acquire_27 (by decide) k) ?_
  refine sh_cp (fun w Z k => sh_aload dc_Hall_acquire_29 rfl k) ?_
  refine sh_ccall (fun w hw => sh_stat (As := [.ref (A (10 + t))]) dc_Hall_acquire_31 lm_Hall_checkRunning ln_Hall_77 wd_463 wd_49 rfl rfl (Nat.le_of_ble_eq_true rfl)) (ct_Hall_checkRunning_1 (t := t) (by omega) hp) ⟨(Nat.le_of_ble_eq_true rfl), (Nat.le_of_ble_eq_true rfl), (Nat.le_of_ble_eq_true rfl), (Nat.le_of_ble_eq_true rfl)⟩ ?_
  show sh_cW _ _ (_, _, []) K L _ _ _ _ _
  refine sh_cp (fun w Z k => sh_aload dc_Hall_acquire_34 rfl k) ?_
  refine sh_ccall (fun w hw => sh_stat (As := [.ref (A (20 + s))]) dc_Hall_acquire_36 lm_Hall_gateOf ln_Hall_81 wd_471 wd_49 rfl rfl (Nat.le_of_ble_eq_true rfl)) (ct_Hall_gateOf_Lock_1 (s := s) (by omega) hk_s) ⟨(Nat.le_of_ble_eq_true rfl), (Nat.le_of_ble_eq_true rfl), (Nat.le_of_ble_eq_true rfl), (Nat.le_of_ble_eq_true rfl)⟩ ?_
  show sh_cW _ _ (_, _, [.ref (A (20 + s))]) K L _ _ _ _ _
  refine sh_cp (fun w Z k => sh_astore dc_Hall_acquire_39 (by decide) k) ?_
  refine sh_cp (fun w Z k => sh_aload dc_Hall_acquire_41 rfl k) ?_
  refine sh_ccall (fun w hw => sh_virt (As := []) dc_Hall_acquire_43 lm_Worker_dropFlag ln_Hall_85 wd_492 wd_5 rfl rfl (Nat.le_of_ble_eq_true rfl) (hw _ _ (cw_ow (by omega))) rfl) (ct_Worker_dropFlag_1 (t := t) (by omega) v0_43) ⟨(Nat.le_of_ble_eq_true rfl), (Nat.le_of_ble_eq_true rfl), (Nat.le_of_ble_eq_true rfl), (Nat.le_of_ble_eq_true rfl)⟩ ?_
  show sh_cW _ _ (_, _, [.int (K 2 t)]) (sh_u2 K 2 t 0) L _ _ _ _ _
  refine sh_cp (fun w Z k => sh_if_eq (tgt := 56) dc_Hall_acquire_46 (by decide) (fun _ => k) (fun z => absurd c1_46 z)) ?_
  refine sh_cp (fun w Z k => sh_aload_n dc_Hall_acquire_56 rfl rfl k) ?_
  refine sh_cp (fun w Z k => sh_aload dc_Hall_acquire_57 rfl k) ?_
  refine sh_cp (fun w Z k => sh_aload dc_Hall_acquire_59 rfl k) ?_
  refine sh_cp (fun w Z k => sh_iload_n dc_Hall_acquire_61 rfl rfl k) ?_
  exact sh_ccallT (fun w hw => sh_virt (As := [.ref (A (10 + t)), .ref (A (20 + s)), .int (nI s)]) dc_Hall_acquire_62 lm_Hall_keepOrder ln_Hall_92 wd_500 wd_7 rfl rfl (Nat.le_of_ble_eq_true rfl) (hw _ _ cw_o0) rfl) (cl_ko_t (t := t) (s := s) (by omega) (by omega) (cw_okr_up (by decide) ho) ((congrArg cw_cl (sh_u2_row (by decide) _)).trans hk_s) c2_62) ⟨(Nat.le_of_ble_eq_true rfl), (Nat.le_of_ble_eq_true rfl), (Nat.le_of_ble_eq_true rfl), (Nat.le_of_ble_eq_true rfl)⟩ rfl
theorem ct_Hall_acquire_Lock_2 {A : Nat → Nat} {K : sh_II} {L : sh_DD} {t : Nat} {s : Nat} {m : Int32} {y : UInt64} {l : List Nat} (ht : t < 6) (hs : s < 8) (hm : m = 0 ∨ m = 1) (hl1 : ¬ (Op.cmpValue (FP.dcmp y (FP.i2d (-1))) .l) < 0) (hl2 : (Op.cmpValue (FP.dcmp y (FP.i2d 1000)) .g) ≤ 0) (hp : (K 5 t) = -1) (ho : cw_okr K) (hr : cw_row K s l) (hlen : l.length < 6) (hk_s : cw_cl (K 12 s) = 4) (v0_43 : narrow .boolean (.int (K 2 t)) = .int (K 2 t)) (c1_46 : (K 2 t) = 0) (c2_62 : ¬ sp_kt (sh_u2 K 2 t 0) t s = true) (c3_81 : (sp_b (sp_mq (sp_ko (sh_u2 K 2 t 0) t s) t s m l)) = 0) (c4_92 : (sp_b (sp_can (sp_ko (sh_u2 K 2 t 0) t s) t s m)) = 0) (c5_115 : (Op.cmpValue (FP.dcmp y FP.dconst0) .l) = 0) : sh_cM A md_Hall_acquire [.ref (A 0), .int (nI t), .int (nI s), .int m, .double y] K L (.inl (some (.int 2))) (sh_u2 (sh_u2 (sp_ko (sh_u2 K 2 t 0) t s) 4 t 2) 27 t 0) L := by
  refine sh_cp (fun w Z k => sh_aload_n dc_Hall_acquire_0 rfl rfl k) ?_
  refine sh_cp (fun w Z k => sh_iload_n dc_Hall_acquire_1 rfl rfl k) ?_
  refine sh_ccall (fun w hw => sh_virt (As := [.int (nI t)]) dc_Hall_acquire_2 lm_Hall_workerAt ln_Hall_62 wd_448 wd_3 rfl rfl (Nat.le_of_ble_eq_true rfl) (hw _ _ cw_o0) rfl) (ct_Hall_workerAt_1 (t := t) (by omega)) ⟨(Nat.le_of_ble_eq_true rfl), (Nat.le_of_ble_eq_true rfl), (Nat.le_of_ble_eq_true rfl), (Nat.le_of_ble_eq_true rfl)⟩ ?_
  show sh_cW _ _ (_, _, [.ref (A (10 + t))]) K L _ _ _ _ _
  refine sh_cp (fun w Z k => sh_astore dc_Hall_acquire_5 (by decide) k) ?_
  refine sh_cp (fun w Z k => sh_iload_n dc_Hall_acquire_7 rfl rfl k) ?_
  refine sh_cp (fun w Z k => sh_iconst (v := 0) dc_Hall_acquire_8 (by decide) k) ?_
  refine sh_cp (fun w Z k => sh_iconst (v := 1) dc_Hall_acquire_9 (by decide) k) ?_
  refine sh_ccall (fun w hw => sh_stat (As := [.int m, .int 0, .int 1]) dc_Hall_acquire_10 lm_Hall_checkNumber ln_Hall_39 wd_191 wd_49 rfl rfl (Nat.le_of_ble_eq_true rfl)) (ct_Hall_checkNumber_2 (x := m) (lo := 0) (hi := 1) (sp_m0 hm) (sp_m1 hm)) ⟨(Nat.le_of_ble_eq_true rfl), (Nat.le_of_ble_eq_true rfl), (Nat.le_of_ble_eq_true rfl), (Nat.le_of_ble_eq_true rfl)⟩ ?_
  show sh_cW _ _ (_, _, []) K L _ _ _ _ _
  refine sh_cp (fun w Z k => sh_dload dc_Hall_acquire_13 rfl k) ?_
  refine sh_cp (fun w Z k => sh_iconst (v := (-1)) dc_Hall_acquire_15 (by decide) k) ?_
  refine sh_cp (fun w Z k => sh_sipush (v := 1000) dc_Hall_acquire_16 (by decide) k) ?_
  refine sh_ccall (fun w hw => sh_stat (As := [.double y, .int (-1), .int 1000]) dc_Hall_acquire_19 lm_Hall_checkAmount ln_Hall_66 wd_451 wd_49 rfl rfl (Nat.le_of_ble_eq_true rfl)) (ct_Hall_checkAmount_2 (x := y) (lo := (-1)) (hi := 1000) hl1 hl2) ⟨(Nat.le_of_ble_eq_true rfl), (Nat.le_of_ble_eq_true rfl), (Nat.le_of_ble_eq_true rfl), (Nat.le_of_ble_eq_true rfl)⟩ ?_
  show sh_cW _ _ (_, _, []) K L _ _ _ _ _
  refine sh_cp (fun w Z k => sh_aload_n dc_Hall_acquire_22 rfl rfl k) ?_
  refine sh_cp (fun w Z k => sh_iload_n dc_Hall_acquire_23 rfl rfl k) ?_
  refine sh_ccall (fun w hw => sh_virt (As := [.int (nI s)]) dc_Hall_acquire_24 lm_Hall_syncAt ln_Hall_73 wd_272 wd_2 rfl rfl (Nat.le_of_ble_eq_true rfl) (hw _ _ cw_o0) rfl) (ct_Hall_syncAt_2 (s := s) (by omega) (cw_nz hk_s (by decide))) ⟨(Nat.le_of_ble_eq_true rfl), (Nat.le_of_ble_eq_true rfl), (Nat.le_of_ble_eq_true rfl), (Nat.le_of_ble_eq_true rfl)⟩ ?_
  show sh_cW _ _ (_, _, [.ref (A (20 + s))]) K L _ _ _ _ _
  refine sh_cp (fun w Z k => sh_astore dc_Hall_acquire_27 (by decide) k) ?_
  refine sh_cp (fun w Z k => sh_aload dc_Hall_acquire_29 rfl k) ?_
  refine sh_ccall (fun w hw => sh_stat (As := [.ref (A (10 + t))]) dc_Hall_acquire_31 lm_Hall_checkRunning ln_Hall_77 wd_463 wd_49 rfl rfl (Nat.le_of_ble_eq_true rfl)) (ct_Hall_checkRunning_1 (t := t) (by omega) hp) ⟨(Nat.le_of_ble_eq_true rfl), (Nat.le_of_ble_eq_true rfl), (Nat.le_of_ble_eq_true rfl), (Nat.le_of_ble_eq_true rfl)⟩ ?_
  show sh_cW _ _ (_, _, []) K L _ _ _ _ _
  refine sh_cp (fun w Z k => sh_aload dc_Hall_acquire_34 rfl k) ?_
  refine sh_ccall (fun w hw => sh_stat (As := [.ref (A (20 + s))]) dc_Hall_acquire_36 lm_Hall_gateOf ln_Hall_81 wd_471 wd_49 rfl rfl (Nat.le_of_ble_eq_true rfl)) (ct_Hall_gateOf_Lock_1 (s := s) (by omega) hk_s) ⟨(Nat.le_of_ble_eq_true rfl), (Nat.le_of_ble_eq_true rfl), (Nat.le_of_ble_eq_true rfl), (Nat.le_of_ble_eq_true rfl)⟩ ?_
  show sh_cW _ _ (_, _, [.ref (A (20 + s))]) K L _ _ _ _ _
  refine sh_cp (fun w Z k => sh_astore dc_Hall_acquire_39 (by decide) k) ?_
  refine sh_cp (fun w Z k => sh_aload dc_Hall_acquire_41 rfl k) ?_
  refine sh_ccall (fun w hw => sh_virt (As := []) dc_Hall_acquire_43 lm_Worker_dropFlag ln_Hall_85 wd_492 wd_5 rfl rfl (Nat.le_of_ble_eq_true rfl) (hw _ _ (cw_ow (by omega))) rfl) (ct_Worker_dropFlag_1 (t := t) (by omega) v0_43) ⟨(Nat.le_of_ble_eq_true rfl), (Nat.le_of_ble_eq_true rfl), (Nat.le_of_ble_eq_true rfl), (Nat.le_of_ble_eq_true rfl)⟩ ?_
  show sh_cW _ _ (_, _, [.int (K 2 t)]) (sh_u2 K 2 t 0) L _ _ _ _ _
  refine sh_cp (fun w Z k => sh_if_eq (tgt := 56) dc_Hall_acquire_46 (by decide) (fun _ => k) (fun z => absurd c1_46 z)) ?_
  refine sh_cp (fun w Z k => sh_aload_n dc_Hall_acquire_56 rfl rfl k) ?_
  refine sh_cp (fun w Z k => sh_aload dc_Hall_acquire_57 rfl k) ?_
  refine sh_cp (fun w Z k => sh_aload dc_Hall_acquire_59 rfl k) ?_
  refine sh_cp (fun w Z k => sh_iload_n dc_Hall_acquire_61 rfl rfl k) ?_
  refine sh_ccall (fun w hw => sh_virt (As := [.ref (A (10 + t)), .ref (A (20 + s)), .int (nI s)]) dc_Hall_acquire_62 lm_Hall_keepOrder ln_Hall_92 wd_500 wd_7 rfl rfl (Nat.le_of_ble_eq_true rfl) (hw _ _ cw_o0) rfl) (cl_ko (t := t) (s := s) (by omega) (by omega) (cw_okr_up (by decide) ho) ((congrArg cw_cl (sh_u2_row (by decide) _)).trans hk_s) c2_62) ⟨(Nat.le_of_ble_eq_true rfl), (Nat.le_of_ble_eq_true rfl), (Nat.le_of_ble_eq_true rfl), (Nat.le_of_ble_eq_true rfl)⟩ ?_
  show sh_cW _ _ (_, _, []) (sp_ko (sh_u2 K 2 t 0) t s) L _ _ _ _ _
  refine sh_cp (fun w Z k => sh_aload dc_Hall_acquire_65 rfl k) ?_
  refine sh_cp (fun w Z k => sh_aload dc_Hall_acquire_67 rfl k) ?_
  refine sh_cp (fun w Z k => sh_iload_n dc_Hall_acquire_69 rfl rfl k) ?_
  refine sh_ccall (fun w hw => sh_virtU (As := [.ref (A (10 + t)), .int m]) dc_Hall_acquire_70 lm_Gate_checkWish wd_528 wd_530 (Or.inr ⟨_, _, _, wd_529, wd_540⟩) ⟨by decide, by decide⟩ (by decide +kernel) wd_529 wd_532 rfl rfl (Nat.le_of_ble_eq_true rfl) (hw _ _ (cw_ol (by omega) ((congrArg cw_cl (Eq.trans (sp_ko_keep (by decide) _) (sh_u2_row (by decide) _))).trans hk_s))) rfl) (ct_Gate_checkWish_Lock_1 (t := t) (s := s) (m := m) (by omega) (by omega) ((congrArg cw_cl (Eq.trans (sp_ko_keep (by decide) _) (sh_u2_row (by decide) _))).trans hk_s)) ⟨(Nat.le_of_ble_eq_true rfl), (Nat.le_of_ble_eq_true rfl), (Nat.le_of_ble_eq_true rfl), (Nat.le_of_ble_eq_true rfl)⟩ ?_
  show sh_cW _ _ (_, _, []) (sp_ko (sh_u2 K 2 t 0) t s) L _ _ _ _ _
  refine sh_cp (fun w Z k => sh_aload dc_Hall_acquire_73 rfl k) ?_
  refine sh_cp (fun w Z k => sh_aload dc_Hall_acquire_75 rfl k) ?_
  refine sh_cp (fun w Z k => sh_iload_n dc_Hall_acquire_77 rfl rfl k) ?_
  refine sh_ccall (fun w hw => sh_virtU (As := [.ref (A (10 + t)), .int m]) dc_Hall_acquire_78 lm_Lock_mustQueue wd_541 wd_543 (Or.inl wd_542) ⟨by decide, by decide⟩ (by decide +kernel) wd_548 wd_547 rfl rfl (Nat.le_of_ble_eq_true rfl) (hw _ _ (cw_ol (by omega) ((congrArg cw_cl (Eq.trans (sp_ko_keep (by decide) _) (sh_u2_row (by decide) _))).trans hk_s))) rfl) (cl_mq_Lock (s := s) (t := t) (m := m) (l := l) (by omega) (by omega) (cw_okr_f (fun c => sp_ko_keep (by decide) c) (cw_okr_up (by decide) ho)) (cw_row_f (fun c => sp_ko_keep (by decide) c) (fun c => sp_ko_keep (by decide) c) (cw_row_up (by decide) hr)) hm ((congrArg cw_cl (Eq.trans (sp_ko_keep (by decide) _) (sh_u2_row (by decide) _))).trans hk_s)) ⟨(Nat.le_of_ble_eq_true rfl), (Nat.le_of_ble_eq_true rfl), (Nat.le_of_ble_eq_true rfl), (Nat.le_of_ble_eq_true rfl)⟩ ?_
  show sh_cW _ _ (_, _, [.int (sp_b (sp_mq (sp_ko (sh_u2 K 2 t 0) t s) t s m l))]) (sp_ko (sh_u2 K 2 t 0) t s) L _ _ _ _ _
  refine sh_cp (fun w Z k => sh_if_ne (tgt := 111) dc_Hall_acquire_81 (by decide) (fun z => absurd c3_81 z) (fun _ => k)) ?_
  refine sh_cp (fun w Z k => sh_aload dc_Hall_acquire_84 rfl k) ?_
  refine sh_cp (fun w Z k => sh_aload dc_Hall_acquire_86 rfl k) ?_
  refine sh_cp (fun w Z k => sh_iload_n dc_Hall_acquire_88 rfl rfl k) ?_
  refine sh_ccall (fun w hw => sh_virtU (As := [.ref (A (10 + t)), .int m]) dc_Hall_acquire_89 lm_Lock_canTake wd_570 wd_572 (Or.inl wd_571) ⟨by decide, by decide⟩ (by decide +kernel) wd_577 wd_576 rfl rfl (Nat.le_of_ble_eq_true rfl) (hw _ _ (cw_ol (by omega) ((congrArg cw_cl (Eq.trans (sp_ko_keep (by decide) _) (sh_u2_row (by decide) _))).trans hk_s))) rfl) (cl_can_Lock (s := s) (t := t) (m := m) (by omega) (by omega) (cw_okr_f (fun c => sp_ko_keep (by decide) c) (cw_okr_up (by decide) ho)) hm ((congrArg cw_cl (Eq.trans (sp_ko_keep (by decide) _) (sh_u2_row (by decide) _))).trans hk_s)) ⟨(Nat.le_of_ble_eq_true rfl), (Nat.le_of_ble_eq_true rfl), (Nat.le_of_ble_eq_true rfl), (Nat.le_of_ble_eq_true rfl)⟩ ?_
  show sh_cW _ _ (_, _, [.int (sp_b (sp_can (sp_ko (sh_u2 K 2 t 0) t s) t s m))]) (sp_ko (sh_u2 K 2 t 0) t s) L _ _ _ _ _
  refine sh_cp (fun w Z k => sh_if_eq (tgt := 111) dc_Hall_acquire_92 (by decide) (fun _ => k) (fun z => absurd c4_92 z)) ?_
  refine sh_cp (fun w Z k => sh_dload dc_Hall_acquire_111 rfl k) ?_
  refine sh_cp (fun w Z k => sh_dconst0 dc_Hall_acquire_113 k) ?_
  refine sh_cp (fun w Z k => sh_dcmp dc_Hall_acquire_114 k) ?_
  refine sh_cp (fun w Z k => sh_if_ne (tgt := 125) dc_Hall_acquire_115 (by decide) (fun z => absurd c5_115 z) (fun _ => k)) ?_
  refine sh_cp (fun w Z k => sh_aload dc_Hall_acquire_118 rfl k) ?_
  refine sh_cp (fun w Z k => sh_iconst (v := 2) dc_Hall_acquire_120 (by decide) k) ?_
  refine sh_ccall (fun w hw => sh_virt (As := [.int 2]) dc_Hall_acquire_121 lm_Worker_finish ln_Hall_89 wd_496 wd_6 rfl rfl (Nat.le_of_ble_eq_true rfl) (hw _ _ (cw_ow (by omega))) rfl) (ct_Worker_finish_1 (t := t) (x := 2) (by omega)) ⟨(Nat.le_of_ble_eq_true rfl), (Nat.le_of_ble_eq_true rfl), (Nat.le_of_ble_eq_true rfl), (Nat.le_of_ble_eq_true rfl)⟩ ?_
  show sh_cW _ _ (_, _, [.int 2]) (sh_u2 (sh_u2 (sp_ko (sh_u2 K 2 t 0) t s) 4 t 2) 27 t 0) L _ _ _ _ _
  exact sh_ce (fun w => sh_ireturn dc_Hall_acquire_124 rfl rfl (by decide) (by decide))
theorem ct_Hall_acquire_Lock_3 {A : Nat → Nat} {K : sh_II} {L : sh_DD} {t : Nat} {s : Nat} {m : Int32} {y : UInt64} {l : List Nat} (ht : t < 6) (hs : s < 8) (hm : m = 0 ∨ m = 1) (hl1 : ¬ (Op.cmpValue (FP.dcmp y (FP.i2d (-1))) .l) < 0) (hl2 : (Op.cmpValue (FP.dcmp y (FP.i2d 1000)) .g) ≤ 0) (hp : (K 5 t) = -1) (ho : cw_okr K) (hr : cw_row K s l) (hlen : l.length < 6) (hk_s : cw_cl (K 12 s) = 4) (v0_43 : narrow .boolean (.int (K 2 t)) = .int (K 2 t)) (c1_46 : (K 2 t) = 0) (c2_62 : ¬ sp_kt (sh_u2 K 2 t 0) t s = true) (c3_81 : (sp_b (sp_mq (sp_ko (sh_u2 K 2 t 0) t s) t s m l)) = 0) (c4_92 : (sp_b (sp_can (sp_ko (sh_u2 K 2 t 0) t s) t s m)) = 0) (c5_115 : ¬ (Op.cmpValue (FP.dcmp y FP.dconst0) .l) = 0) (c6_157 : (Op.cmpValue (FP.dcmp y FP.dconst0) .l) ≤ 0) : sh_cM A md_Hall_acquire [.ref (A 0), .int (nI t), .int (nI s), .int m, .double y] K L (.inl (some (.int ((sp_enq (sh_u2 (sh_u2 (sp_ko (sh_u2 K 2 t 0) t s) 9 t 1) 10 t 1) s t m l) 4 t)))) (sp_enq (sh_u2 (sh_u2 (sp_ko (sh_u2 K 2 t 0) t s) 9 t 1) 10 t 1) s t m l) (sh_u2 L 8 t (L 11 0)) := by
  refine sh_cp (fun w Z k => sh_aload_n dc_Hall_acquire_0 rfl rfl k) ?_
  refine sh_cp (fun w Z k => sh_iload_n dc_Hall_acquire_1 rfl rfl k) ?_
  refine sh_ccall (fun w hw => sh_virt (As := [.int (nI t)]) dc_Hall_acquire_2 lm_Hall_workerAt ln_Hall_62 wd_448 wd_3 rfl rfl (Nat.le_of_ble_eq_true rfl) (hw _ _ cw_o0) rfl) (ct_Hall_workerAt_1 (t := t) (by omega)) ⟨(Nat.le_of_ble_eq_true rfl), (Nat.le_of_ble_eq_true rfl), (Nat.le_of_ble_eq_true rfl), (Nat.le_of_ble_eq_true rfl)⟩ ?_
  show sh_cW _ _ (_, _, [.ref (A (10 + t))]) K L _ _ _ _ _
  refine sh_cp (fun w Z k => sh_astore dc_Hall_acquire_5 (by decide) k) ?_
  refine sh_cp (fun w Z k => sh_iload_n dc_Hall_acquire_7 rfl rfl k) ?_
  refine sh_cp (fun w Z k => sh_iconst (v := 0) dc_Hall_acquire_8 (by decide) k) ?_
  refine sh_cp (fun w Z k => sh_iconst (v := 1) dc_Hall_acquire_9 (by decide) k) ?_
  refine sh_ccall (fun w hw => sh_stat (As := [.int m, .int 0, .int 1]) dc_Hall_acquire_10 lm_Hall_checkNumber ln_Hall_39 wd_191 wd_49 rfl rfl (Nat.le_of_ble_eq_true rfl)) (ct_Hall_checkNumber_2 (x := m) (lo := 0) (hi := 1) (sp_m0 hm) (sp_m1 hm)) ⟨(Nat.le_of_ble_eq_true rfl), (Nat.le_of_ble_eq_true rfl), (Nat.le_of_ble_eq_true rfl), (Nat.le_of_ble_eq_true rfl)⟩ ?_
  show sh_cW _ _ (_, _, []) K L _ _ _ _ _
  refine sh_cp (fun w Z k => sh_dload dc_Hall_acquire_13 rfl k) ?_
  refine sh_cp (fun w Z k => sh_iconst (v := (-1)) dc_Hall_acquire_15 (by decide) k) ?_
  refine sh_cp (fun w Z k => sh_sipush (v := 1000) dc_Hall_acquire_16 (by decide) k) ?_
  refine sh_ccall (fun w hw => sh_stat (As := [.double y, .int (-1), .int 1000]) dc_Hall_acquire_19 lm_Hall_checkAmount ln_Hall_66 wd_451 wd_49 rfl rfl (Nat.le_of_ble_eq_true rfl)) (ct_Hall_checkAmount_2 (x := y) (lo := (-1)) (hi := 1000) hl1 hl2) ⟨(Nat.le_of_ble_eq_true rfl), (Nat.le_of_ble_eq_true rfl), (Nat.le_of_ble_eq_true rfl), (Nat.le_of_ble_eq_true rfl)⟩ ?_
  show sh_cW _ _ (_, _, []) K L _ _ _ _ _
  refine sh_cp (fun w Z k => sh_aload_n dc_Hall_acquire_22 rfl rfl k) ?_
  refine sh_cp (fun w Z k => sh_iload_n dc_Hall_acquire_23 rfl rfl k) ?_
  refine sh_ccall (fun w hw => sh_virt (As := [.int (nI s)]) dc_Hall_acquire_24 lm_Hall_syncAt ln_Hall_73 wd_272 wd_2 rfl rfl (Nat.le_of_ble_eq_true rfl) (hw _ _ cw_o0) rfl) (ct_Hall_syncAt_2 (s := s) (by omega) (cw_nz hk_s (by decide))) ⟨(Nat.le_of_ble_eq_true rfl), (Nat.le_of_ble_eq_true rfl), (Nat.le_of_ble_eq_true rfl), (Nat.le_of_ble_eq_true rfl)⟩ ?_
  show sh_cW _ _ (_, _, [.ref (A (20 + s))]) K L _ _ _ _ _
  refine sh_cp (fun w Z k => sh_astore dc_Hall_acquire_27 (by decide) k) ?_
  refine sh_cp (fun w Z k => sh_aload dc_Hall_acquire_29 rfl k) ?_
  refine sh_ccall (fun w hw => sh_stat (As := [.ref (A (10 + t))]) dc_Hall_acquire_31 lm_Hall_checkRunning ln_Hall_77 wd_463 wd_49 rfl rfl (Nat.le_of_ble_eq_true rfl)) (ct_Hall_checkRunning_1 (t := t) (by omega) hp) ⟨(Nat.le_of_ble_eq_true rfl), (Nat.le_of_ble_eq_true rfl), (Nat.le_of_ble_eq_true rfl), (Nat.le_of_ble_eq_true rfl)⟩ ?_
  show sh_cW _ _ (_, _, []) K L _ _ _ _ _
  refine sh_cp (fun w Z k => sh_aload dc_Hall_acquire_34 rfl k) ?_
  refine sh_ccall (fun w hw => sh_stat (As := [.ref (A (20 + s))]) dc_Hall_acquire_36 lm_Hall_gateOf ln_Hall_81 wd_471 wd_49 rfl rfl (Nat.le_of_ble_eq_true rfl)) (ct_Hall_gateOf_Lock_1 (s := s) (by omega) hk_s) ⟨(Nat.le_of_ble_eq_true rfl), (Nat.le_of_ble_eq_true rfl), (Nat.le_of_ble_eq_true rfl), (Nat.le_of_ble_eq_true rfl)⟩ ?_
  show sh_cW _ _ (_, _, [.ref (A (20 + s))]) K L _ _ _ _ _
  refine sh_cp (fun w Z k => sh_astore dc_Hall_acquire_39 (by decide) k) ?_
  refine sh_cp (fun w Z k => sh_aload dc_Hall_acquire_41 rfl k) ?_
  refine sh_ccall (fun w hw => sh_virt (As := []) dc_Hall_acquire_43 lm_Worker_dropFlag ln_Hall_85 wd_492 wd_5 rfl rfl (Nat.le_of_ble_eq_true rfl) (hw _ _ (cw_ow (by omega))) rfl) (ct_Worker_dropFlag_1 (t := t) (by omega) v0_43) ⟨(Nat.le_of_ble_eq_true rfl), (Nat.le_of_ble_eq_true rfl), (Nat.le_of_ble_eq_true rfl), (Nat.le_of_ble_eq_true rfl)⟩ ?_
  show sh_cW _ _ (_, _, [.int (K 2 t)]) (sh_u2 K 2 t 0) L _ _ _ _ _
  refine sh_cp (fun w Z k => sh_if_eq (tgt := 56) dc_Hall_acquire_46 (by decide) (fun _ => k) (fun z => absurd c1_46 z)) ?_
  refine sh_cp (fun w Z k => sh_aload_n dc_Hall_acquire_56 rfl rfl k) ?_
  refine sh_cp (fun w Z k => sh_aload dc_Hall_acquire_57 rfl k) ?_
  refine sh_cp (fun w Z k => sh_aload dc_Hall_acquire_59 rfl k) ?_
  refine sh_cp (fun w Z k => sh_iload_n dc_Hall_acquire_61 rfl rfl k) ?_
  refine sh_ccall (fun w hw => sh_virt (As := [.ref (A (10 + t)), .ref (A (20 + s)), .int (nI s)]) dc_Hall_acquire_62 lm_Hall_keepOrder ln_Hall_92 wd_500 wd_7 rfl rfl (Nat.le_of_ble_eq_true rfl) (hw _ _ cw_o0) rfl) (cl_ko (t := t) (s := s) (by omega) (by omega) (cw_okr_up (by decide) ho) ((congrArg cw_cl (sh_u2_row (by decide) _)).trans hk_s) c2_62) ⟨(Nat.le_of_ble_eq_true rfl), (Nat.le_of_ble_eq_true rfl), (Nat.le_of_ble_eq_true rfl), (Nat.le_of_ble_eq_true rfl)⟩ ?_
  show sh_cW _ _ (_, _, []) (sp_ko (sh_u2 K 2 t 0) t s) L _ _ _ _ _
  refine sh_cp (fun w Z k => sh_aload dc_Hall_acquire_65 rfl k) ?_
  refine sh_cp (fun w Z k => sh_aload dc_Hall_acquire_67 rfl k) ?_
  refine sh_cp (fun w Z k => sh_iload_n dc_Hall_acquire_69 rfl rfl k) ?_
  refine sh_ccall (fun w hw => sh_virtU (As := [.ref (A (10 + t)), .int m]) dc_Hall_acquire_70 lm_Gate_checkWish wd_528 wd_530 (Or.inr ⟨_, _, _, wd_529, wd_540⟩) ⟨by decide, by decide⟩ (by decide +kernel) wd_529 wd_532 rfl rfl (Nat.le_of_ble_eq_true rfl) (hw _ _ (cw_ol (by omega) ((congrArg cw_cl (Eq.trans (sp_ko_keep (by decide) _) (sh_u2_row (by decide) _))).trans hk_s))) rfl) (ct_Gate_checkWish_Lock_1 (t := t) (s := s) (m := m) (by omega) (by omega) ((congrArg cw_cl (Eq.trans (sp_ko_keep (by decide) _) (sh_u2_row (by decide) _))).trans hk_s)) ⟨(Nat.le_of_ble_eq_true rfl), (Nat.le_of_ble_eq_true rfl), (Nat.le_of_ble_eq_true rfl), (Nat.le_of_ble_eq_true rfl)⟩ ?_
  show sh_cW _ _ (_, _, []) (sp_ko (sh_u2 K 2 t 0) t s) L _ _ _ _ _
  refine sh_cp (fun w Z k => sh_aload dc_Hall_acquire_73 rfl k) ?_
  refine sh_cp (fun w Z k => sh_aload dc_Hall_acquire_75 rfl k) ?_
  refine sh_cp (fun w Z k => sh_iload_n dc_Hall_acquire_77 rfl rfl k) ?_
  refine sh_ccall (fun w hw => sh_virtU (As := [.ref (A (10 + t)), .int m]) dc_Hall_acquire_78 lm_Lock_mustQueue wd_541 wd_543 (Or.inl wd_542) ⟨by decide, by decide⟩ (by decide +kernel) wd_548 wd_547 rfl rfl (Nat.le_of_ble_eq_true rfl) (hw _ _ (cw_ol (by omega) ((congrArg cw_cl (Eq.trans (sp_ko_keep (by decide) _) (sh_u2_row (by decide) _))).trans hk_s))) rfl) (cl_mq_Lock (s := s) (t := t) (m := m) (l := l) (by omega) (by omega) (cw_okr_f (fun c => sp_ko_keep (by decide) c) (cw_okr_up (by decide) ho)) (cw_row_f (fun c => sp_ko_keep (by decide) c) (fun c => sp_ko_keep (by decide) c) (cw_row_up (by decide) hr)) hm ((congrArg cw_cl (Eq.trans (sp_ko_keep (by decide) _) (sh_u2_row (by decide) _))).trans hk_s)) ⟨(Nat.le_of_ble_eq_true rfl), (Nat.le_of_ble_eq_true rfl), (Nat.le_of_ble_eq_true rfl), (Nat.le_of_ble_eq_true rfl)⟩ ?_
  show sh_cW _ _ (_, _, [.int (sp_b (sp_mq (sp_ko (sh_u2 K 2 t 0) t s) t s m l))]) (sp_ko (sh_u2 K 2 t 0) t s) L _ _ _ _ _
  refine sh_cp (fun w Z k => sh_if_ne (tgt := 111) dc_Hall_acquire_81 (by decide) (fun z => absurd c3_81 z) (fun _ => k)) ?_
  refine sh_cp (fun w Z k => sh_aload dc_Hall_acquire_84 rfl k) ?_
  refine sh_cp (fun w Z k => sh_aload dc_Hall_acquire_86 rfl k) ?_
  refine sh_cp (fun w Z k => sh_iload_n dc_Hall_acquire_88 rfl rfl k) ?_
  refine sh_ccall (fun w hw => sh_virtU (As := [.ref (A (10 + t)), .int m]) dc_Hall_acquire_89 lm_Lock_canTake wd_570 wd_572 (Or.inl wd_571) ⟨by decide, by decide⟩ (by decide +kernel) wd_577 wd_576 rfl rfl (Nat.le_of_ble_eq_true rfl) (hw _ _ (cw_ol (by omega) ((congrArg cw_cl (Eq.trans (sp_ko_keep (by decide) _) (sh_u2_row (by decide) _))).trans hk_s))) rfl) (cl_can_Lock (s := s) (t := t) (m := m) (by omega) (by omega) (cw_okr_f (fun c => sp_ko_keep (by decide) c) (cw_okr_up (by decide) ho)) hm ((congrArg cw_cl (Eq.trans (sp_ko_keep (by decide) _) (sh_u2_row (by decide) _))).trans hk_s)) ⟨(Nat.le_of_ble_eq_true rfl), (Nat.le_of_ble_eq_true rfl), (Nat.le_of_ble_eq_true rfl), (Nat.le_of_ble_eq_true rfl)⟩ ?_
  show sh_cW _ _ (_, _, [.int (sp_b (sp_can (sp_ko (sh_u2 K 2 t 0) t s) t s m))]) (sp_ko (sh_u2 K 2 t 0) t s) L _ _ _ _ _
  refine sh_cp (fun w Z k => sh_if_eq (tgt := 111) dc_Hall_acquire_92 (by decide) (fun _ => k) (fun z => absurd c4_92 z)) ?_
  refine sh_cp (fun w Z k => sh_dload dc_Hall_acquire_111 rfl k) ?_
  refine sh_cp (fun w Z k => sh_dconst0 dc_Hall_acquire_113 k) ?_
  refine sh_cp (fun w Z k => sh_dcmp dc_Hall_acquire_114 k) ?_
  refine sh_cp (fun w Z k => sh_if_ne (tgt := 125) dc_Hall_acquire_115 (by decide) (fun _ => k) (fun z => absurd z c5_115)) ?_
  refine sh_cp (fun w Z k => sh_aload dc_Hall_acquire_125 rfl k) ?_
  refine sh_cp (fun w Z k => sh_iconst (v := 1) dc_Hall_acquire_127 (by decide) k) ?_
  refine sh_cput (K1 := (sh_u2 (sp_ko (sh_u2 K 2 t 0) t s) 9 t 1)) (L1 := L) (10 + t) 9 dc_Hall_acquire_128 (cw_ow (by omega)) rfl (by decide) fl_Hall_113 rfl rfl rfl rfl pd_I rfl rfl (cq_Worker_9 (by omega)) (fun i hi => cw_upI (by decide) hi) ?_
  refine sh_cp (fun w Z k => sh_aload dc_Hall_acquire_131 rfl k) ?_
  refine sh_cp (fun w Z k => sh_iconst (v := 1) dc_Hall_acquire_133 (by decide) k) ?_
  refine sh_cput (K1 := (sh_u2 (sh_u2 (sp_ko (sh_u2 K 2 t 0) t s) 9 t 1) 10 t 1)) (L1 := L) (10 + t) 10 dc_Hall_acquire_134 (cw_ow (by omega)) rfl (by decide) fl_Hall_116 rfl rfl rfl rfl pd_I rfl rfl (cq_Worker_10 (by omega)) (fun i hi => cw_upI (by decide) hi) ?_
  refine sh_cp (fun w Z k => sh_aload dc_Hall_acquire_137 rfl k) ?_
  refine sh_cp (fun w Z k => sh_aload dc_Hall_acquire_139 rfl k) ?_
  refine sh_cp (fun w Z k => sh_iload_n dc_Hall_acquire_141 rfl rfl k) ?_
  refine sh_cp (fun w Z k => sh_aload_n dc_Hall_acquire_142 rfl rfl k) ?_
  refine sh_cget 0 4 dc_Hall_acquire_143 cw_o0 rfl (by decide) fl_Hall_35 rfl rfl rfl rfl ?_
  refine sh_ccall (fun w hw => sh_virtU (As := [.ref (A (10 + t)), .int m, .double (L 11 0)]) dc_Hall_acquire_146 lm_Sync_enqueue wd_604 wd_605 (Or.inl wd_606) ⟨by decide, by decide⟩ (by decide +kernel) wd_611 wd_608 rfl rfl (Nat.le_of_ble_eq_true rfl) (hw _ _ (cw_ol (by omega) ((congrArg cw_cl (Eq.trans (sh_u2_row (by decide) _) (Eq.trans (sh_u2_row (by decide) _) (Eq.trans (sp_ko_keep (by decide) _) (sh_u2_row (by decide) _))))).trans hk_s))) rfl) (cl_enq_Lock (s := s) (t := t) (m := m) (a := L 11 0) (l := l) (by omega) (by omega) (cw_row_up (by decide) (cw_row_up (by decide) (cw_row_f (fun c => sp_ko_keep (by decide) c) (fun c => sp_ko_keep (by decide) c) (cw_row_up (by decide) hr)))) hlen ((congrArg cw_cl (Eq.trans (sh_u2_row (by decide) _) (Eq.trans (sh_u2_row (by decide) _) (Eq.trans (sp_ko_keep (by decide) _) (sh_u2_row (by decide) _))))).trans hk_s)) ⟨(Nat.le_of_ble_eq_true rfl), (Nat.le_of_ble_eq_true rfl), (Nat.le_of_ble_eq_true rfl), (Nat.le_of_ble_eq_true rfl)⟩ ?_
  show sh_cW _ _ (_, _, []) (sp_enq (sh_u2 (sh_u2 (sp_ko (sh_u2 K 2 t 0) t s) 9 t 1) 10 t 1) s t m l) (sh_u2 L 8 t (L 11 0)) _ _ _ _ _
  refine sh_cp (fun w Z k => sh_aload dc_Hall_acquire_149 rfl k) ?_
  refine sh_cp (fun w Z k => sh_aload_n dc_Hall_acquire_151 rfl rfl k) ?_
  refine sh_cget 0 4 dc_Hall_acquire_152 cw_o0 rfl (by decide) fl_Hall_35 rfl rfl rfl rfl ?_
  refine sh_ctd (show (sh_u2 L 8 t (L 11 0)) 11 0 = L 11 0 from (sh_u2_row (by decide) _)) ?_
  refine sh_cp (fun w Z k => sh_dload dc_Hall_acquire_155 rfl k) ?_
  refine sh_ccall (fun w hw => sh_virt (As := [.double (L 11 0), .double y]) dc_Hall_acquire_157 lm_Worker_setEnd ln_Hall_123 wd_619 wd_17 rfl rfl (Nat.le_of_ble_eq_true rfl) (hw _ _ (cw_ow (by omega))) rfl) (ct_Worker_setEnd_1 (t := t) (a := L 11 0) (b := y) (by omega) c6_157) ⟨(Nat.le_of_ble_eq_true rfl), (Nat.le_of_ble_eq_true rfl), (Nat.le_of_ble_eq_true rfl), (Nat.le_of_ble_eq_true rfl)⟩ ?_
  show sh_cW _ _ (_, _, []) (sp_enq (sh_u2 (sh_u2 (sp_ko (sh_u2 K 2 t 0) t s) 9 t 1) 10 t 1) s t m l) (sh_u2 L 8 t (L 11 0)) _ _ _ _ _
  refine sh_cp (fun w Z k => sh_aload dc_Hall_acquire_160 rfl k) ?_
  refine sh_cget (10 + t) 3 dc_Hall_acquire_162 (cw_ow (by omega)) rfl (by decide) fl_Hall_127 rfl rfl rfl rfl ?_
  exact sh_ce (fun w => sh_ireturn dc_Hall_acquire_165 rfl rfl (by decide) (by decide))
theorem ct_Hall_acquire_Lock_4 {A : Nat → Nat} {K : sh_II} {L : sh_DD} {t : Nat} {s : Nat} {m : Int32} {y : UInt64} {l : List Nat} (ht : t < 6) (hs : s < 8) (hm : m = 0 ∨ m = 1) (hl1 : ¬ (Op.cmpValue (FP.dcmp y (FP.i2d (-1))) .l) < 0) (hl2 : (Op.cmpValue (FP.dcmp y (FP.i2d 1000)) .g) ≤ 0) (hp : (K 5 t) = -1) (ho : cw_okr K) (hr : cw_row K s l) (hlen : l.length < 6) (hk_s : cw_cl (K 12 s) = 4) (v0_43 : narrow .boolean (.int (K 2 t)) = .int (K 2 t)) (c1_46 : (K 2 t) = 0) (c2_62 : ¬ sp_kt (sh_u2 K 2 t 0) t s = true) (c3_81 : (sp_b (sp_mq (sp_ko (sh_u2 K 2 t 0) t s) t s m l)) = 0) (c4_92 : (sp_b (sp_can (sp_ko (sh_u2 K 2 t 0) t s) t s m)) = 0) (c5_115 : ¬ (Op.cmpValue (FP.dcmp y FP.dconst0) .l) = 0) (c6_157 : ¬ (Op.cmpValue (FP.dcmp y FP.dconst0) .l) ≤ 0) (v7_157 : vf_n64 (FP.dadd (L 11 0) y)) : sh_cM A md_Hall_acquire [.ref (A 0), .int (nI t), .int (nI s), .int m, .double y] K L (.inl (some (.int ((sh_u2 (sp_enq (sh_u2 (sh_u2 (sp_ko (sh_u2 K 2 t 0) t s) 9 t 1) 10 t 1) s t m l) 26 t 1) 4 t)))) (sh_u2 (sp_enq (sh_u2 (sh_u2 (sp_ko (sh_u2 K 2 t 0) t s) 9 t 1) 10 t 1) s t m l) 26 t 1) (sh_u2 (sh_u2 L 8 t (L 11 0)) 7 t (FP.dadd (L 11 0) y)) := by
  refine sh_cp (fun w Z k => sh_aload_n dc_Hall_acquire_0 rfl rfl k) ?_
  refine sh_cp (fun w Z k => sh_iload_n dc_Hall_acquire_1 rfl rfl k) ?_
  refine sh_ccall (fun w hw => sh_virt (As := [.int (nI t)]) dc_Hall_acquire_2 lm_Hall_workerAt ln_Hall_62 wd_448 wd_3 rfl rfl (Nat.le_of_ble_eq_true rfl) (hw _ _ cw_o0) rfl) (ct_Hall_workerAt_1 (t := t) (by omega)) ⟨(Nat.le_of_ble_eq_true rfl), (Nat.le_of_ble_eq_true rfl), (Nat.le_of_ble_eq_true rfl), (Nat.le_of_ble_eq_true rfl)⟩ ?_
  show sh_cW _ _ (_, _, [.ref (A (10 + t))]) K L _ _ _ _ _
  refine sh_cp (fun w Z k => sh_astore dc_Hall_acquire_5 (by decide) k) ?_
  refine sh_cp (fun w Z k => sh_iload_n dc_Hall_acquire_7 rfl rfl k) ?_
  refine sh_cp (fun w Z k => sh_iconst (v := 0) dc_Hall_acquire_8 (by decide) k) ?_
  refine sh_cp (fun w Z k => sh_iconst (v := 1) dc_Hall_acquire_9 (by decide) k) ?_
  refine sh_ccall (fun w hw => sh_stat (As := [.int m, .int 0, .int 1]) dc_Hall_acquire_10 lm_Hall_checkNumber ln_Hall_39 wd_191 wd_49 rfl rfl (Nat.le_of_ble_eq_true rfl)) (ct_Hall_checkNumber_2 (x := m) (lo := 0) (hi := 1) (sp_m0 hm) (sp_m1 hm)) ⟨(Nat.le_of_ble_eq_true rfl), (Nat.le_of_ble_eq_true rfl), (Nat.le_of_ble_eq_true rfl), (Nat.le_of_ble_eq_true rfl)⟩ ?_
  show sh_cW _ _ (_, _, []) K L _ _ _ _ _
  refine sh_cp (fun w Z k => sh_dload dc_Hall_acquire_13 rfl k) ?_
  refine sh_cp (fun w Z k => sh_iconst (v := (-1)) dc_Hall_acquire_15 (by decide) k) ?_
  refine sh_cp (fun w Z k => sh_sipush (v := 1000) dc_Hall_acquire_16 (by decide) k) ?_
  refine sh_ccall (fun w hw => sh_stat (As := [.double y, .int (-1), .int 1000]) dc_Hall_acquire_19 lm_Hall_checkAmount ln_Hall_66 wd_451 wd_49 rfl rfl (Nat.le_of_ble_eq_true rfl)) (ct_Hall_checkAmount_2 (x := y) (lo := (-1)) (hi := 1000) hl1 hl2) ⟨(Nat.le_of_ble_eq_true rfl), (Nat.le_of_ble_eq_true rfl), (Nat.le_of_ble_eq_true rfl), (Nat.le_of_ble_eq_true rfl)⟩ ?_
  show sh_cW _ _ (_, _, []) K L _ _ _ _ _
  refine sh_cp (fun w Z k => sh_aload_n dc_Hall_acquire_22 rfl rfl k) ?_
  refine sh_cp (fun w Z k => sh_iload_n dc_Hall_acquire_23 rfl rfl k) ?_
  refine sh_ccall (fun w hw => sh_virt (As := [.int (nI s)]) dc_Hall_acquire_24 lm_Hall_syncAt ln_Hall_73 wd_272 wd_2 rfl rfl (Nat.le_of_ble_eq_true rfl) (hw _ _ cw_o0) rfl) (ct_Hall_syncAt_2 (s := s) (by omega) (cw_nz hk_s (by decide))) ⟨(Nat.le_of_ble_eq_true rfl), (Nat.le_of_ble_eq_true rfl), (Nat.le_of_ble_eq_true rfl), (Nat.le_of_ble_eq_true rfl)⟩ ?_
  show sh_cW _ _ (_, _, [.ref (A (20 + s))]) K L _ _ _ _ _
  refine sh_cp (fun w Z k => sh_astore dc_Hall_acquire_27 (by decide) k) ?_
  refine sh_cp (fun w Z k => sh_aload dc_Hall_acquire_29 rfl k) ?_
  refine sh_ccall (fun w hw => sh_stat (As := [.ref (A (10 + t))]) dc_Hall_acquire_31 lm_Hall_checkRunning ln_Hall_77 wd_463 wd_49 rfl rfl (Nat.le_of_ble_eq_true rfl)) (ct_Hall_checkRunning_1 (t := t) (by omega) hp) ⟨(Nat.le_of_ble_eq_true rfl), (Nat.le_of_ble_eq_true rfl), (Nat.le_of_ble_eq_true rfl), (Nat.le_of_ble_eq_true rfl)⟩ ?_
  show sh_cW _ _ (_, _, []) K L _ _ _ _ _
  refine sh_cp (fun w Z k => sh_aload dc_Hall_acquire_34 rfl k) ?_
  refine sh_ccall (fun w hw => sh_stat (As := [.ref (A (20 + s))]) dc_Hall_acquire_36 lm_Hall_gateOf ln_Hall_81 wd_471 wd_49 rfl rfl (Nat.le_of_ble_eq_true rfl)) (ct_Hall_gateOf_Lock_1 (s := s) (by omega) hk_s) ⟨(Nat.le_of_ble_eq_true rfl), (Nat.le_of_ble_eq_true rfl), (Nat.le_of_ble_eq_true rfl), (Nat.le_of_ble_eq_true rfl)⟩ ?_
  show sh_cW _ _ (_, _, [.ref (A (20 + s))]) K L _ _ _ _ _
  refine sh_cp (fun w Z k => sh_astore dc_Hall_acquire_39 (by decide) k) ?_
  refine sh_cp (fun w Z k => sh_aload dc_Hall_acquire_41 rfl k) ?_
  refine sh_ccall (fun w hw => sh_virt (As := []) dc_Hall_acquire_43 lm_Worker_dropFlag ln_Hall_85 wd_492 wd_5 rfl rfl (Nat.le_of_ble_eq_true rfl) (hw _ _ (cw_ow (by omega))) rfl) (ct_Worker_dropFlag_1 (t := t) (by omega) v0_43) ⟨(Nat.le_of_ble_eq_true rfl), (Nat.le_of_ble_eq_true rfl), (Nat.le_of_ble_eq_true rfl), (Nat.le_of_ble_eq_true rfl)⟩ ?_
  show sh_cW _ _ (_, _, [.int (K 2 t)]) (sh_u2 K 2 t 0) L _ _ _ _ _
  refine sh_cp (fun w Z k => sh_if_eq (tgt := 56) dc_Hall_acquire_46 (by decide) (fun _ => k) (fun z => absurd c1_46 z)) ?_
  refine sh_cp (fun w Z k => sh_aload_n dc_Hall_acquire_56 rfl rfl k) ?_
  refine sh_cp (fun w Z k => sh_aload dc_Hall_acquire_57 rfl k) ?_
  refine sh_cp (fun w Z k => sh_aload dc_Hall_acquire_59 rfl k) ?_
  refine sh_cp (fun w Z k => sh_iload_n dc_Hall_acquire_61 rfl rfl k) ?_
  refine sh_ccall (fun w hw => sh_virt (As := [.ref (A (10 + t)), .ref (A (20 + s)), .int (nI s)]) dc_Hall_acquire_62 lm_Hall_keepOrder ln_Hall_92 wd_500 wd_7 rfl rfl (Nat.le_of_ble_eq_true rfl) (hw _ _ cw_o0) rfl) (cl_ko (t := t) (s := s) (by omega) (by omega) (cw_okr_up (by decide) ho) ((congrArg cw_cl (sh_u2_row (by decide) _)).trans hk_s) c2_62) ⟨(Nat.le_of_ble_eq_true rfl), (Nat.le_of_ble_eq_true rfl), (Nat.le_of_ble_eq_true rfl), (Nat.le_of_ble_eq_true rfl)⟩ ?_
  show sh_cW _ _ (_, _, []) (sp_ko (sh_u2 K 2 t 0) t s) L _ _ _ _ _
  refine sh_cp (fun w Z k => sh_aload dc_Hall_acquire_65 rfl k) ?_
  refine sh_cp (fun w Z k => sh_aload dc_Hall_acquire_67 rfl k) ?_
  refine sh_cp (fun w Z k => sh_iload_n dc_Hall_acquire_69 rfl rfl k) ?_
  refine sh_ccall (fun w hw => sh_virtU (As := [.ref (A (10 + t)), .int m]) dc_Hall_acquire_70 lm_Gate_checkWish wd_528 wd_530 (Or.inr ⟨_, _, _, wd_529, wd_540⟩) ⟨by decide, by decide⟩ (by decide +kernel) wd_529 wd_532 rfl rfl (Nat.le_of_ble_eq_true rfl) (hw _ _ (cw_ol (by omega) ((congrArg cw_cl (Eq.trans (sp_ko_keep (by decide) _) (sh_u2_row (by decide) _))).trans hk_s))) rfl) (ct_Gate_checkWish_Lock_1 (t := t) (s := s) (m := m) (by omega) (by omega) ((congrArg cw_cl (Eq.trans (sp_ko_keep (by decide) _) (sh_u2_row (by decide) _))).trans hk_s)) ⟨(Nat.le_of_ble_eq_true rfl), (Nat.le_of_ble_eq_true rfl), (Nat.le_of_ble_eq_true rfl), (Nat.le_of_ble_eq_true rfl)⟩ ?_
  show sh_cW _ _ (_, _, []) (sp_ko (sh_u2 K 2 t 0) t s) L _ _ _ _ _
  refine sh_cp (fun w Z k => sh_aload dc_Hall_acquire_73 rfl k) ?_
  refine sh_cp (fun w Z k => sh_aload dc_Hall_acquire_75 rfl k) ?_
  refine sh_cp (fun w Z k => sh_iload_n dc_Hall_acquire_77 rfl rfl k) ?_
  refine sh_ccall (fun w hw => sh_virtU (As := [.ref (A (10 + t)), .int m]) dc_Hall_acquire_78 lm_Lock_mustQueue wd_541 wd_543 (Or.inl wd_542) ⟨by decide, by decide⟩ (by decide +kernel) wd_548 wd_547 rfl rfl (Nat.le_of_ble_eq_true rfl) (hw _ _ (cw_ol (by omega) ((congrArg cw_cl (Eq.trans (sp_ko_keep (by decide) _) (sh_u2_row (by decide) _))).trans hk_s))) rfl) (cl_mq_Lock (s := s) (t := t) (m := m) (l := l) (by omega) (by omega) (cw_okr_f (fun c => sp_ko_keep (by decide) c) (cw_okr_up (by decide) ho)) (cw_row_f (fun c => sp_ko_keep (by decide) c) (fun c => sp_ko_keep (by decide) c) (cw_row_up (by decide) hr)) hm ((congrArg cw_cl (Eq.trans (sp_ko_keep (by decide) _) (sh_u2_row (by decide) _))).trans hk_s)) ⟨(Nat.le_of_ble_eq_true rfl), (Nat.le_of_ble_eq_true rfl), (Nat.le_of_ble_eq_true rfl), (Nat.le_of_ble_eq_true rfl)⟩ ?_
  show sh_cW _ _ (_, _, [.int (sp_b (sp_mq (sp_ko (sh_u2 K 2 t 0) t s) t s m l))]) (sp_ko (sh_u2 K 2 t 0) t s) L _ _ _ _ _
  refine sh_cp (fun w Z k => sh_if_ne (tgt := 111) dc_Hall_acquire_81 (by decide) (fun z => absurd c3_81 z) (fun _ => k)) ?_
  refine sh_cp (fun w Z k => sh_aload dc_Hall_acquire_84 rfl k) ?_
  refine sh_cp (fun w Z k => sh_aload dc_Hall_acquire_86 rfl k) ?_
  refine sh_cp (fun w Z k => sh_iload_n dc_Hall_acquire_88 rfl rfl k) ?_
  refine sh_ccall (fun w hw => sh_virtU (As := [.ref (A (10 + t)), .int m]) dc_Hall_acquire_89 lm_Lock_canTake wd_570 wd_572 (Or.inl wd_571) ⟨by decide, by decide⟩ (by decide +kernel) wd_577 wd_576 rfl rfl (Nat.le_of_ble_eq_true rfl) (hw _ _ (cw_ol (by omega) ((congrArg cw_cl (Eq.trans (sp_ko_keep (by decide) _) (sh_u2_row (by decide) _))).trans hk_s))) rfl) (cl_can_Lock (s := s) (t := t) (m := m) (by omega) (by omega) (cw_okr_f (fun c => sp_ko_keep (by decide) c) (cw_okr_up (by decide) ho)) hm ((congrArg cw_cl (Eq.trans (sp_ko_keep (by decide) _) (sh_u2_row (by decide) _))).trans hk_s)) ⟨(Nat.le_of_ble_eq_true rfl), (Nat.le_of_ble_eq_true rfl), (Nat.le_of_ble_eq_true rfl), (Nat.le_of_ble_eq_true rfl)⟩ ?_
  show sh_cW _ _ (_, _, [.int (sp_b (sp_can (sp_ko (sh_u2 K 2 t 0) t s) t s m))]) (sp_ko (sh_u2 K 2 t 0) t s) L _ _ _ _ _
  refine sh_cp (fun w Z k => sh_if_eq (tgt := 111) dc_Hall_acquire_92 (by decide) (fun _ => k) (fun z => absurd c4_92 z)) ?_
  refine sh_cp (fun w Z k => sh_dload dc_Hall_acquire_111 rfl k) ?_
  refine sh_cp (fun w Z k => sh_dconst0 dc_Hall_acquire_113 k) ?_
  refine sh_cp (fun w Z k => sh_dcmp dc_Hall_acquire_114 k) ?_
  refine sh_cp (fun w Z k => sh_if_ne (tgt := 125) dc_Hall_acquire_115 (by decide) (fun _ => k) (fun z => absurd z c5_115)) ?_
  refine sh_cp (fun w Z k => sh_aload dc_Hall_acquire_125 rfl k) ?_
  refine sh_cp (fun w Z k => sh_iconst (v := 1) dc_Hall_acquire_127 (by decide) k) ?_
  refine sh_cput (K1 := (sh_u2 (sp_ko (sh_u2 K 2 t 0) t s) 9 t 1)) (L1 := L) (10 + t) 9 dc_Hall_acquire_128 (cw_ow (by omega)) rfl (by decide) fl_Hall_113 rfl rfl rfl rfl pd_I rfl rfl (cq_Worker_9 (by omega)) (fun i hi => cw_upI (by decide) hi) ?_
  refine sh_cp (fun w Z k => sh_aload dc_Hall_acquire_131 rfl k) ?_
  refine sh_cp (fun w Z k => sh_iconst (v := 1) dc_Hall_acquire_133 (by decide) k) ?_
  refine sh_cput (K1 := (sh_u2 (sh_u2 (sp_ko (sh_u2 K 2 t 0) t s) 9 t 1) 10 t 1)) (L1 := L) (10 + t) 10 dc_Hall_acquire_134 (cw_ow (by omega)) rfl (by decide) fl_Hall_116 rfl rfl rfl rfl pd_I rfl rfl (cq_Worker_10 (by omega)) (fun i hi => cw_upI (by decide) hi) ?_
  refine sh_cp (fun w Z k => sh_aload dc_Hall_acquire_137 rfl k) ?_
  refine sh_cp (fun w Z k => sh_aload dc_Hall_acquire_139 rfl k) ?_
  refine sh_cp (fun w Z k => sh_iload_n dc_Hall_acquire_141 rfl rfl k) ?_
  refine sh_cp (fun w Z k => sh_aload_n dc_Hall_acquire_142 rfl rfl k) ?_
  refine sh_cget 0 4 dc_Hall_acquire_143 cw_o0 rfl (by decide) fl_Hall_35 rfl rfl rfl rfl ?_
  refine sh_ccall (fun w hw => sh_virtU (As := [.ref (A (10 + t)), .int m, .double (L 11 0)]) dc_Hall_acquire_146 lm_Sync_enqueue wd_604 wd_605 (Or.inl wd_606) ⟨by decide, by decide⟩ (by decide +kernel) wd_611 wd_608 rfl rfl (Nat.le_of_ble_eq_true rfl) (hw _ _ (cw_ol (by omega) ((congrArg cw_cl (Eq.trans (sh_u2_row (by decide) _) (Eq.trans (sh_u2_row (by decide) _) (Eq.trans (sp_ko_keep (by decide) _) (sh_u2_row (by decide) _))))).trans hk_s))) rfl) (cl_enq_Lock (s := s) (t := t) (m := m) (a := L 11 0) (l := l) (by omega) (by omega) (cw_row_up (by decide) (cw_row_up (by decide) (cw_row_f (fun c => sp_ko_keep (by decide) c) (fun c => sp_ko_keep (by decide) c) (cw_row_up (by decide) hr)))) hlen ((congrArg cw_cl (Eq.trans (sh_u2_row (by decide) _) (Eq.trans (sh_u2_row (by decide) _) (Eq.trans (sp_ko_keep (by decide) _) (sh_u2_row (by decide) _))))).trans hk_s)) ⟨(Nat.le_of_ble_eq_true rfl), (Nat.le_of_ble_eq_true rfl), (Nat.le_of_ble_eq_true rfl), (Nat.le_of_ble_eq_true rfl)⟩ ?_
  show sh_cW _ _ (_, _, []) (sp_enq (sh_u2 (sh_u2 (sp_ko (sh_u2 K 2 t 0) t s) 9 t 1) 10 t 1) s t m l) (sh_u2 L 8 t (L 11 0)) _ _ _ _ _
  refine sh_cp (fun w Z k => sh_aload dc_Hall_acquire_149 rfl k) ?_
  refine sh_cp (fun w Z k => sh_aload_n dc_Hall_acquire_151 rfl rfl k) ?_
  refine sh_cget 0 4 dc_Hall_acquire_152 cw_o0 rfl (by decide) fl_Hall_35 rfl rfl rfl rfl ?_
  refine sh_ctd (show (sh_u2 L 8 t (L 11 0)) 11 0 = L 11 0 from (sh_u2_row (by decide) _)) ?_
  refine sh_cp (fun w Z k => sh_dload dc_Hall_acquire_155 rfl k) ?_
  refine sh_ccall (fun w hw => sh_virt (As := [.double (L 11 0), .double y]) dc_Hall_acquire_157 lm_Worker_setEnd ln_Hall_123 wd_619 wd_17 rfl rfl (Nat.le_of_ble_eq_true rfl) (hw _ _ (cw_ow (by omega))) rfl) (ct_Worker_setEnd_2 (t := t) (a := L 11 0) (b := y) (by omega) c6_157 v7_157) ⟨(Nat.le_of_ble_eq_true rfl), (Nat.le_of_ble_eq_true rfl), (Nat.le_of_ble_eq_true rfl), (Nat.le_of_ble_eq_true rfl)⟩ ?_
  show sh_cW _ _ (_, _, []) (sh_u2 (sp_enq (sh_u2 (sh_u2 (sp_ko (sh_u2 K 2 t 0) t s) 9 t 1) 10 t 1) s t m l) 26 t 1) (sh_u2 (sh_u2 L 8 t (L 11 0)) 7 t (FP.dadd (L 11 0) y)) _ _ _ _ _
  refine sh_cp (fun w Z k => sh_aload dc_Hall_acquire_160 rfl k) ?_
  refine sh_cget (10 + t) 3 dc_Hall_acquire_162 (cw_ow (by omega)) rfl (by decide) fl_Hall_127 rfl rfl rfl rfl ?_
  exact sh_ce (fun w => sh_ireturn dc_Hall_acquire_165 rfl rfl (by decide) (by decide))
theorem ct_Hall_acquire_Lock_5 {A : Nat → Nat} {K : sh_II} {L : sh_DD} {t : Nat} {s : Nat} {m : Int32} {y : UInt64} {l : List Nat} (ht : t < 6) (hs : s < 8) (hm : m = 0 ∨ m = 1) (hl1 : ¬ (Op.cmpValue (FP.dcmp y (FP.i2d (-1))) .l) < 0) (hl2 : (Op.cmpValue (FP.dcmp y (FP.i2d 1000)) .g) ≤ 0) (hp : (K 5 t) = -1) (ho : cw_okr K) (hr : cw_row K s l) (hlen : l.length < 6) (hk_s : cw_cl (K 12 s) = 4) (v0_43 : narrow .boolean (.int (K 2 t)) = .int (K 2 t)) (c1_46 : (K 2 t) = 0) (c2_62 : ¬ sp_kt (sh_u2 K 2 t 0) t s = true) (c3_81 : (sp_b (sp_mq (sp_ko (sh_u2 K 2 t 0) t s) t s m l)) = 0) (c4_92 : ¬ (sp_b (sp_can (sp_ko (sh_u2 K 2 t 0) t s) t s m)) = 0) : sh_cM A md_Hall_acquire [.ref (A 0), .int (nI t), .int (nI s), .int m, .double y] K L (.inl (some (.int 1))) (sh_u2 (sh_u2 (sp_tk (sp_ko (sh_u2 K 2 t 0) t s) t s m 1) 4 t 1) 27 t 0) L := by
  refine sh_cp (fun w Z k => sh_aload_n dc_Hall_acquire_0 rfl rfl k) ?_
  refine sh_cp (fun w Z k => sh_iload_n dc_Hall_acquire_1 rfl rfl k) ?_
  refine sh_ccall (fun w hw => sh_virt (As := [.int (nI t)]) dc_Hall_acquire_2 lm_Hall_workerAt ln_Hall_62 wd_448 wd_3 rfl rfl (Nat.le_of_ble_eq_true rfl) (hw _ _ cw_o0) rfl) (ct_Hall_workerAt_1 (t := t) (by omega)) ⟨(Nat.le_of_ble_eq_true rfl), (Nat.le_of_ble_eq_true rfl), (Nat.le_of_ble_eq_true rfl), (Nat.le_of_ble_eq_true rfl)⟩ ?_
  show sh_cW _ _ (_, _, [.ref (A (10 + t))]) K L _ _ _ _ _
  refine sh_cp (fun w Z k => sh_astore dc_Hall_acquire_5 (by decide) k) ?_
  refine sh_cp (fun w Z k => sh_iload_n dc_Hall_acquire_7 rfl rfl k) ?_
  refine sh_cp (fun w Z k => sh_iconst (v := 0) dc_Hall_acquire_8 (by decide) k) ?_
  refine sh_cp (fun w Z k => sh_iconst (v := 1) dc_Hall_acquire_9 (by decide) k) ?_
  refine sh_ccall (fun w hw => sh_stat (As := [.int m, .int 0, .int 1]) dc_Hall_acquire_10 lm_Hall_checkNumber ln_Hall_39 wd_191 wd_49 rfl rfl (Nat.le_of_ble_eq_true rfl)) (ct_Hall_checkNumber_2 (x := m) (lo := 0) (hi := 1) (sp_m0 hm) (sp_m1 hm)) ⟨(Nat.le_of_ble_eq_true rfl), (Nat.le_of_ble_eq_true rfl), (Nat.le_of_ble_eq_true rfl), (Nat.le_of_ble_eq_true rfl)⟩ ?_
  show sh_cW _ _ (_, _, []) K L _ _ _ _ _
  refine sh_cp (fun w Z k => sh_dload dc_Hall_acquire_13 rfl k) ?_
  refine sh_cp (fun w Z k => sh_iconst (v := (-1)) dc_Hall_acquire_15 (by decide) k) ?_
  refine sh_cp (fun w Z k => sh_sipush (v := 1000) dc_Hall_acquire_16 (by decide) k) ?_
  refine sh_ccall (fun w hw => sh_stat (As := [.double y, .int (-1), .int 1000]) dc_Hall_acquire_19 lm_Hall_checkAmount ln_Hall_66 wd_451 wd_49 rfl rfl (Nat.le_of_ble_eq_true rfl)) (ct_Hall_checkAmount_2 (x := y) (lo := (-1)) (hi := 1000) hl1 hl2) ⟨(Nat.le_of_ble_eq_true rfl), (Nat.le_of_ble_eq_true rfl), (Nat.le_of_ble_eq_true rfl), (Nat.le_of_ble_eq_true rfl)⟩ ?_
  show sh_cW _ _ (_, _, []) K L _ _ _ _ _
  refine sh_cp (fun w Z k => sh_aload_n dc_Hall_acquire_22 rfl rfl k) ?_
  refine sh_cp (fun w Z k => sh_iload_n dc_Hall_acquire_23 rfl rfl k) ?_
  refine sh_ccall (fun w hw => sh_virt (As := [.int (nI s)]) dc_Hall_acquire_24 lm_Hall_syncAt ln_Hall_73 wd_272 wd_2 rfl rfl (Nat.le_of_ble_eq_true rfl) (hw _ _ cw_o0) rfl) (ct_Hall_syncAt_2 (s := s) (by omega) (cw_nz hk_s (by decide))) ⟨(Nat.le_of_ble_eq_true rfl), (Nat.le_of_ble_eq_true rfl), (Nat.le_of_ble_eq_true rfl), (Nat.le_of_ble_eq_true rfl)⟩ ?_
  show sh_cW _ _ (_, _, [.ref (A (20 + s))]) K L _ _ _ _ _
  refine sh_cp (fun w Z k => sh_astore dc_Hall_acquire_27 (by decide) k) ?_
  refine sh_cp (fun w Z k => sh_aload dc_Hall_acquire_29 rfl k) ?_
  refine sh_ccall (fun w hw => sh_stat (As := [.ref (A (10 + t))]) dc_Hall_acquire_31 lm_Hall_checkRunning ln_Hall_77 wd_463 wd_49 rfl rfl (Nat.le_of_ble_eq_true rfl)) (ct_Hall_checkRunning_1 (t := t) (by omega) hp) ⟨(Nat.le_of_ble_eq_true rfl), (Nat.le_of_ble_eq_true rfl), (Nat.le_of_ble_eq_true rfl), (Nat.le_of_ble_eq_true rfl)⟩ ?_
  show sh_cW _ _ (_, _, []) K L _ _ _ _ _
  refine sh_cp (fun w Z k => sh_aload dc_Hall_acquire_34 rfl k) ?_
  refine sh_ccall (fun w hw => sh_stat (As := [.ref (A (20 + s))]) dc_Hall_acquire_36 lm_Hall_gateOf ln_Hall_81 wd_471 wd_49 rfl rfl (Nat.le_of_ble_eq_true rfl)) (ct_Hall_gateOf_Lock_1 (s := s) (by omega) hk_s) ⟨(Nat.le_of_ble_eq_true rfl), (Nat.le_of_ble_eq_true rfl), (Nat.le_of_ble_eq_true rfl), (Nat.le_of_ble_eq_true rfl)⟩ ?_
  show sh_cW _ _ (_, _, [.ref (A (20 + s))]) K L _ _ _ _ _
  refine sh_cp (fun w Z k => sh_astore dc_Hall_acquire_39 (by decide) k) ?_
  refine sh_cp (fun w Z k => sh_aload dc_Hall_acquire_41 rfl k) ?_
  refine sh_ccall (fun w hw => sh_virt (As := []) dc_Hall_acquire_43 lm_Worker_dropFlag ln_Hall_85 wd_492 wd_5 rfl rfl (Nat.le_of_ble_eq_true rfl) (hw _ _ (cw_ow (by omega))) rfl) (ct_Worker_dropFlag_1 (t := t) (by omega) v0_43) ⟨(Nat.le_of_ble_eq_true rfl), (Nat.le_of_ble_eq_true rfl), (Nat.le_of_ble_eq_true rfl), (Nat.le_of_ble_eq_true rfl)⟩ ?_
  show sh_cW _ _ (_, _, [.int (K 2 t)]) (sh_u2 K 2 t 0) L _ _ _ _ _
  refine sh_cp (fun w Z k => sh_if_eq (tgt := 56) dc_Hall_acquire_46 (by decide) (fun _ => k) (fun z => absurd c1_46 z)) ?_
  refine sh_cp (fun w Z k => sh_aload_n dc_Hall_acquire_56 rfl rfl k) ?_
  refine sh_cp (fun w Z k => sh_aload dc_Hall_acquire_57 rfl k) ?_
  refine sh_cp (fun w Z k => sh_aload dc_Hall_acquire_59 rfl k) ?_
  refine sh_cp (fun w Z k => sh_iload_n dc_Hall_acquire_61 rfl rfl k) ?_
  refine sh_ccall (fun w hw => sh_virt (As := [.ref (A (10 + t)), .ref (A (20 + s)), .int (nI s)]) dc_Hall_acquire_62 lm_Hall_keepOrder ln_Hall_92 wd_500 wd_7 rfl rfl (Nat.le_of_ble_eq_true rfl) (hw _ _ cw_o0) rfl) (cl_ko (t := t) (s := s) (by omega) (by omega) (cw_okr_up (by decide) ho) ((congrArg cw_cl (sh_u2_row (by decide) _)).trans hk_s) c2_62) ⟨(Nat.le_of_ble_eq_true rfl), (Nat.le_of_ble_eq_true rfl), (Nat.le_of_ble_eq_true rfl), (Nat.le_of_ble_eq_true rfl)⟩ ?_
  show sh_cW _ _ (_, _, []) (sp_ko (sh_u2 K 2 t 0) t s) L _ _ _ _ _
  refine sh_cp (fun w Z k => sh_aload dc_Hall_acquire_65 rfl k) ?_
  refine sh_cp (fun w Z k => sh_aload dc_Hall_acquire_67 rfl k) ?_
  refine sh_cp (fun w Z k => sh_iload_n dc_Hall_acquire_69 rfl rfl k) ?_
  refine sh_ccall (fun w hw => sh_virtU (As := [.ref (A (10 + t)), .int m]) dc_Hall_acquire_70 lm_Gate_checkWish wd_528 wd_530 (Or.inr ⟨_, _, _, wd_529, wd_540⟩) ⟨by decide, by decide⟩ (by decide +kernel) wd_529 wd_532 rfl rfl (Nat.le_of_ble_eq_true rfl) (hw _ _ (cw_ol (by omega) ((congrArg cw_cl (Eq.trans (sp_ko_keep (by decide) _) (sh_u2_row (by decide) _))).trans hk_s))) rfl) (ct_Gate_checkWish_Lock_1 (t := t) (s := s) (m := m) (by omega) (by omega) ((congrArg cw_cl (Eq.trans (sp_ko_keep (by decide) _) (sh_u2_row (by decide) _))).trans hk_s)) ⟨(Nat.le_of_ble_eq_true rfl), (Nat.le_of_ble_eq_true rfl), (Nat.le_of_ble_eq_true rfl), (Nat.le_of_ble_eq_true rfl)⟩ ?_
  show sh_cW _ _ (_, _, []) (sp_ko (sh_u2 K 2 t 0) t s) L _ _ _ _ _
  refine sh_cp (fun w Z k => sh_aload dc_Hall_acquire_73 rfl k) ?_
  refine sh_cp (fun w Z k => sh_aload dc_Hall_acquire_75 rfl k) ?_
  refine sh_cp (fun w Z k => sh_iload_n dc_Hall_acquire_77 rfl rfl k) ?_
  refine sh_ccall (fun w hw => sh_virtU (As := [.ref (A (10 + t)), .int m]) dc_Hall_acquire_78 lm_Lock_mustQueue wd_541 wd_543 (Or.inl wd_542) ⟨by decide, by decide⟩ (by decide +kernel) wd_548 wd_547 rfl rfl (Nat.le_of_ble_eq_true rfl) (hw _ _ (cw_ol (by omega) ((congrArg cw_cl (Eq.trans (sp_ko_keep (by decide) _) (sh_u2_row (by decide) _))).trans hk_s))) rfl) (cl_mq_Lock (s := s) (t := t) (m := m) (l := l) (by omega) (by omega) (cw_okr_f (fun c => sp_ko_keep (by decide) c) (cw_okr_up (by decide) ho)) (cw_row_f (fun c => sp_ko_keep (by decide) c) (fun c => sp_ko_keep (by decide) c) (cw_row_up (by decide) hr)) hm ((congrArg cw_cl (Eq.trans (sp_ko_keep (by decide) _) (sh_u2_row (by decide) _))).trans hk_s)) ⟨(Nat.le_of_ble_eq_true rfl), (Nat.le_of_ble_eq_true rfl), (Nat.le_of_ble_eq_true rfl), (Nat.le_of_ble_eq_true rfl)⟩ ?_
  show sh_cW _ _ (_, _, [.int (sp_b (sp_mq (sp_ko (sh_u2 K 2 t 0) t s) t s m l))]) (sp_ko (sh_u2 K 2 t 0) t s) L _ _ _ _ _
  refine sh_cp (fun w Z k => sh_if_ne (tgt := 111) dc_Hall_acquire_81 (by decide) (fun z => absurd c3_81 z) (fun _ => k)) ?_
  refine sh_cp (fun w Z k => sh_aload dc_Hall_acquire_84 rfl k) ?_
  refine sh_cp (fun w Z k => sh_aload dc_Hall_acquire_86 rfl k) ?_
  refine sh_cp (fun w Z k => sh_iload_n dc_Hall_acquire_88 rfl rfl k) ?_
  refine sh_ccall (fun w hw => sh_virtU (As := [.ref (A (10 + t)), .int m]) dc_Hall_acquire_89 lm_Lock_canTake wd_570 wd_572 (Or.inl wd_571) ⟨by decide, by decide⟩ (by decide +kernel) wd_577 wd_576 rfl rfl (Nat.le_of_ble_eq_true rfl) (hw _ _ (cw_ol (by omega) ((congrArg cw_cl (Eq.trans (sp_ko_keep (by decide) _) (sh_u2_row (by decide) _))).trans hk_s))) rfl) (cl_can_Lock (s := s) (t := t) (m := m) (by omega) (by omega) (cw_okr_f (fun c => sp_ko_keep (by decide) c) (cw_okr_up (by decide) ho)) hm ((congrArg cw_cl (Eq.trans (sp_ko_keep (by decide) _) (sh_u2_row (by decide) _))).trans hk_s)) ⟨(Nat.le_of_ble_eq_true rfl), (Nat.le_of_ble_eq_true rfl), (Nat.le_of_ble_eq_true rfl), (Nat.le_of_ble_eq_true rfl)⟩ ?_
  show sh_cW _ _ (_, _, [.int (sp_b (sp_can (sp_ko (sh_u2 K 2 t 0) t s) t s m))]) (sp_ko (sh_u2 K 2 t 0) t s) L _ _ _ _ _
  refine sh_cp (fun w Z k => sh_if_eq (tgt := 111) dc_Hall_acquire_92 (by decide) (fun z => absurd z c4_92) (fun _ => k)) ?_
  refine sh_cp (fun w Z k => sh_aload dc_Hall_acquire_95 rfl k) ?_
  refine sh_cp (fun w Z k => sh_aload dc_Hall_acquire_97 rfl k) ?_
  refine sh_cp (fun w Z k => sh_iload_n dc_Hall_acquire_99 rfl rfl k) ?_
  refine sh_cp (fun w Z k => sh_iconst (v := 1) dc_Hall_acquire_100 (by decide) k) ?_
  refine sh_ccall (fun w hw => sh_virtU (As := [.ref (A (10 + t)), .int m, .int 1]) dc_Hall_acquire_101 lm_Lock_take wd_589 wd_591 (Or.inl wd_590) ⟨by decide, by decide⟩ (by decide +kernel) wd_596 wd_595 rfl rfl (Nat.le_of_ble_eq_true rfl) (hw _ _ (cw_ol (by omega) ((congrArg cw_cl (Eq.trans (sp_ko_keep (by decide) _) (sh_u2_row (by decide) _))).trans hk_s))) rfl) (cl_take_Lock (s := s) (t := t) (m := m) (e := 1) (by omega) (by omega) ((congrArg cw_cl (Eq.trans (sp_ko_keep (by decide) _) (sh_u2_row (by decide) _))).trans hk_s)) ⟨(Nat.le_of_ble_eq_true rfl), (Nat.le_of_ble_eq_true rfl), (Nat.le_of_ble_eq_true rfl), (Nat.le_of_ble_eq_true rfl)⟩ ?_
  show sh_cW _ _ (_, _, []) (sp_tk (sp_ko (sh_u2 K 2 t 0) t s) t s m 1) L _ _ _ _ _
  refine sh_cp (fun w Z k => sh_aload dc_Hall_acquire_104 rfl k) ?_
  refine sh_cp (fun w Z k => sh_iconst (v := 1) dc_Hall_acquire_106 (by decide) k) ?_
  refine sh_ccall (fun w hw => sh_virt (As := [.int 1]) dc_Hall_acquire_107 lm_Worker_finish ln_Hall_89 wd_496 wd_6 rfl rfl (Nat.le_of_ble_eq_true rfl) (hw _ _ (cw_ow (by omega))) rfl) (ct_Worker_finish_1 (t := t) (x := 1) (by omega)) ⟨(Nat.le_of_ble_eq_true rfl), (Nat.le_of_ble_eq_true rfl), (Nat.le_of_ble_eq_true rfl), (Nat.le_of_ble_eq_true rfl)⟩ ?_
  show sh_cW _ _ (_, _, [.int 1]) (sh_u2 (sh_u2 (sp_tk (sp_ko (sh_u2 K 2 t 0) t s) t s m 1) 4 t 1) 27 t 0) L _ _ _ _ _
  exact sh_ce (fun w => sh_ireturn dc_Hall_acquire_110 rfl rfl (by decide) (by decide))
theorem ct_Hall_acquire_Lock_6 {A : Nat → Nat} {K : sh_II} {L : sh_DD} {t : Nat} {s : Nat} {m : Int32} {y : UInt64} {l : List Nat} (ht : t < 6) (hs : s < 8) (hm : m = 0 ∨ m = 1) (hl1 : ¬ (Op.cmpValue (FP.dcmp y (FP.i2d (-1))) .l) < 0) (hl2 : (Op.cmpValue (FP.dcmp y (FP.i2d 1000)) .g) ≤ 0) (hp : (K 5 t) = -1) (ho : cw_okr K) (hr : cw_row K s l) (hlen : l.length < 6) (hk_s : cw_cl (K 12 s) = 4) (v0_43 : narrow .boolean (.int (K 2 t)) = .int (K 2 t)) (c1_46 : (K 2 t) = 0) (c2_62 : ¬ sp_kt (sh_u2 K 2 t 0) t s = true) (c3_81 : ¬ (sp_b (sp_mq (sp_ko (sh_u2 K 2 t 0) t s) t s m l)) = 0) (c4_115 : (Op.cmpValue (FP.dcmp y FP.dconst0) .l) = 0) : sh_cM A md_Hall_acquire [.ref (A 0), .int (nI t), .int (nI s), .int m, .double y] K L (.inl (some (.int 2))) (sh_u2 (sh_u2 (sp_ko (sh_u2 K 2 t 0) t s) 4 t 2) 27 t 0) L := by
  refine sh_cp (fun w Z k => sh_aload_n dc_Hall_acquire_0 rfl rfl k) ?_
  refine sh_cp (fun w Z k => sh_iload_n dc_Hall_acquire_1 rfl rfl k) ?_
  refine sh_ccall (fun w hw => sh_virt (As := [.int (nI t)]) dc_Hall_acquire_2 lm_Hall_workerAt ln_Hall_62 wd_448 wd_3 rfl rfl (Nat.le_of_ble_eq_true rfl) (hw _ _ cw_o0) rfl) (ct_Hall_workerAt_1 (t := t) (by omega)) ⟨(Nat.le_of_ble_eq_true rfl), (Nat.le_of_ble_eq_true rfl), (Nat.le_of_ble_eq_true rfl), (Nat.le_of_ble_eq_true rfl)⟩ ?_
  show sh_cW _ _ (_, _, [.ref (A (10 + t))]) K L _ _ _ _ _
  refine sh_cp (fun w Z k => sh_astore dc_Hall_acquire_5 (by decide) k) ?_
  refine sh_cp (fun w Z k => sh_iload_n dc_Hall_acquire_7 rfl rfl k) ?_
  refine sh_cp (fun w Z k => sh_iconst (v := 0) dc_Hall_acquire_8 (by decide) k) ?_
  refine sh_cp (fun w Z k => sh_iconst (v := 1) dc_Hall_acquire_9 (by decide) k) ?_
  refine sh_ccall (fun w hw => sh_stat (As := [.int m, .int 0, .int 1]) dc_Hall_acquire_10 lm_Hall_checkNumber ln_Hall_39 wd_191 wd_49 rfl rfl (Nat.le_of_ble_eq_true rfl)) (ct_Hall_checkNumber_2 (x := m) (lo := 0) (hi := 1) (sp_m0 hm) (sp_m1 hm)) ⟨(Nat.le_of_ble_eq_true rfl), (Nat.le_of_ble_eq_true rfl), (Nat.le_of_ble_eq_true rfl), (Nat.le_of_ble_eq_true rfl)⟩ ?_
  show sh_cW _ _ (_, _, []) K L _ _ _ _ _
  refine sh_cp (fun w Z k => sh_dload dc_Hall_acquire_13 rfl k) ?_
  refine sh_cp (fun w Z k => sh_iconst (v := (-1)) dc_Hall_acquire_15 (by decide) k) ?_
  refine sh_cp (fun w Z k => sh_sipush (v := 1000) dc_Hall_acquire_16 (by decide) k) ?_
  refine sh_ccall (fun w hw => sh_stat (As := [.double y, .int (-1), .int 1000]) dc_Hall_acquire_19 lm_Hall_checkAmount ln_Hall_66 wd_451 wd_49 rfl rfl (Nat.le_of_ble_eq_true rfl)) (ct_Hall_checkAmount_2 (x := y) (lo := (-1)) (hi := 1000) hl1 hl2) ⟨(Nat.le_of_ble_eq_true rfl), (Nat.le_of_ble_eq_true rfl), (Nat.le_of_ble_eq_true rfl), (Nat.le_of_ble_eq_true rfl)⟩ ?_
  show sh_cW _ _ (_, _, []) K L _ _ _ _ _
  refine sh_cp (fun w Z k => sh_aload_n dc_Hall_acquire_22 rfl rfl k) ?_
  refine sh_cp (fun w Z k => sh_iload_n dc_Hall_acquire_23 rfl rfl k) ?_
  refine sh_ccall (fun w hw => sh_virt (As := [.int (nI s)]) dc_Hall_acquire_24 lm_Hall_syncAt ln_Hall_73 wd_272 wd_2 rfl rfl (Nat.le_of_ble_eq_true rfl) (hw _ _ cw_o0) rfl) (ct_Hall_syncAt_2 (s := s) (by omega) (cw_nz hk_s (by decide))) ⟨(Nat.le_of_ble_eq_true rfl), (Nat.le_of_ble_eq_true rfl), (Nat.le_of_ble_eq_true rfl), (Nat.le_of_ble_eq_true rfl)⟩ ?_
  show sh_cW _ _ (_, _, [.ref (A (20 + s))]) K L _ _ _ _ _
  refine sh_cp (fun w Z k => sh_astore dc_Hall_acquire_27 (by decide) k) ?_
  refine sh_cp (fun w Z k => sh_aload dc_Hall_acquire_29 rfl k) ?_
  refine sh_ccall (fun w hw => sh_stat (As := [.ref (A (10 + t))]) dc_Hall_acquire_31 lm_Hall_checkRunning ln_Hall_77 wd_463 wd_49 rfl rfl (Nat.le_of_ble_eq_true rfl)) (ct_Hall_checkRunning_1 (t := t) (by omega) hp) ⟨(Nat.le_of_ble_eq_true rfl), (Nat.le_of_ble_eq_true rfl), (Nat.le_of_ble_eq_true rfl), (Nat.le_of_ble_eq_true rfl)⟩ ?_
  show sh_cW _ _ (_, _, []) K L _ _ _ _ _
  refine sh_cp (fun w Z k => sh_aload dc_Hall_acquire_34 rfl k) ?_
  refine sh_ccall (fun w hw => sh_stat (As := [.ref (A (20 + s))]) dc_Hall_acquire_36 lm_Hall_gateOf ln_Hall_81 wd_471 wd_49 rfl rfl (Nat.le_of_ble_eq_true rfl)) (ct_Hall_gateOf_Lock_1 (s := s) (by omega) hk_s) ⟨(Nat.le_of_ble_eq_true rfl), (Nat.le_of_ble_eq_true rfl), (Nat.le_of_ble_eq_true rfl), (Nat.le_of_ble_eq_true rfl)⟩ ?_
  show sh_cW _ _ (_, _, [.ref (A (20 + s))]) K L _ _ _ _ _
  refine sh_cp (fun w Z k => sh_astore dc_Hall_acquire_39 (by decide) k) ?_
  refine sh_cp (fun w Z k => sh_aload dc_Hall_acquire_41 rfl k) ?_
  refine sh_ccall (fun w hw => sh_virt (As := []) dc_Hall_acquire_43 lm_Worker_dropFlag ln_Hall_85 wd_492 wd_5 rfl rfl (Nat.le_of_ble_eq_true rfl) (hw _ _ (cw_ow (by omega))) rfl) (ct_Worker_dropFlag_1 (t := t) (by omega) v0_43) ⟨(Nat.le_of_ble_eq_true rfl), (Nat.le_of_ble_eq_true rfl), (Nat.le_of_ble_eq_true rfl), (Nat.le_of_ble_eq_true rfl)⟩ ?_
  show sh_cW _ _ (_, _, [.int (K 2 t)]) (sh_u2 K 2 t 0) L _ _ _ _ _
  refine sh_cp (fun w Z k => sh_if_eq (tgt := 56) dc_Hall_acquire_46 (by decide) (fun _ => k) (fun z => absurd c1_46 z)) ?_
  refine sh_cp (fun w Z k => sh_aload_n dc_Hall_acquire_56 rfl rfl k) ?_
  refine sh_cp (fun w Z k => sh_aload dc_Hall_acquire_57 rfl k) ?_
  refine sh_cp (fun w Z k => sh_aload dc_Hall_acquire_59 rfl k) ?_
  refine sh_cp (fun w Z k => sh_iload_n dc_Hall_acquire_61 rfl rfl k) ?_
  refine sh_ccall (fun w hw => sh_virt (As := [.ref (A (10 + t)), .ref (A (20 + s)), .int (nI s)]) dc_Hall_acquire_62 lm_Hall_keepOrder ln_Hall_92 wd_500 wd_7 rfl rfl (Nat.le_of_ble_eq_true rfl) (hw _ _ cw_o0) rfl) (cl_ko (t := t) (s := s) (by omega) (by omega) (cw_okr_up (by decide) ho) ((congrArg cw_cl (sh_u2_row (by decide) _)).trans hk_s) c2_62) ⟨(Nat.le_of_ble_eq_true rfl), (Nat.le_of_ble_eq_true rfl), (Nat.le_of_ble_eq_true rfl), (Nat.le_of_ble_eq_true rfl)⟩ ?_
  show sh_cW _ _ (_, _, []) (sp_ko (sh_u2 K 2 t 0) t s) L _ _ _ _ _
  refine sh_cp (fun w Z k => sh_aload dc_Hall_acquire_65 rfl k) ?_
  refine sh_cp (fun w Z k => sh_aload dc_Hall_acquire_67 rfl k) ?_
  refine sh_cp (fun w Z k => sh_iload_n dc_Hall_acquire_69 rfl rfl k) ?_
  refine sh_ccall (fun w hw => sh_virtU (As := [.ref (A (10 + t)), .int m]) dc_Hall_acquire_70 lm_Gate_checkWish wd_528 wd_530 (Or.inr ⟨_, _, _, wd_529, wd_540⟩) ⟨by decide, by decide⟩ (by decide +kernel) wd_529 wd_532 rfl rfl (Nat.le_of_ble_eq_true rfl) (hw _ _ (cw_ol (by omega) ((congrArg cw_cl (Eq.trans (sp_ko_keep (by decide) _) (sh_u2_row (by decide) _))).trans hk_s))) rfl) (ct_Gate_checkWish_Lock_1 (t := t) (s := s) (m := m) (by omega) (by omega) ((congrArg cw_cl (Eq.trans (sp_ko_keep (by decide) _) (sh_u2_row (by decide) _))).trans hk_s)) ⟨(Nat.le_of_ble_eq_true rfl), (Nat.le_of_ble_eq_true rfl), (Nat.le_of_ble_eq_true rfl), (Nat.le_of_ble_eq_true rfl)⟩ ?_
  show sh_cW _ _ (_, _, []) (sp_ko (sh_u2 K 2 t 0) t s) L _ _ _ _ _
  refine sh_cp (fun w Z k => sh_aload dc_Hall_acquire_73 rfl k) ?_
  refine sh_cp (fun w Z k => sh_aload dc_Hall_acquire_75 rfl k) ?_
  refine sh_cp (fun w Z k => sh_iload_n dc_Hall_acquire_77 rfl rfl k) ?_
  refine sh_ccall (fun w hw => sh_virtU (As := [.ref (A (10 + t)), .int m]) dc_Hall_acquire_78 lm_Lock_mustQueue wd_541 wd_543 (Or.inl wd_542) ⟨by decide, by decide⟩ (by decide +kernel) wd_548 wd_547 rfl rfl (Nat.le_of_ble_eq_true rfl) (hw _ _ (cw_ol (by omega) ((congrArg cw_cl (Eq.trans (sp_ko_keep (by decide) _) (sh_u2_row (by decide) _))).trans hk_s))) rfl) (cl_mq_Lock (s := s) (t := t) (m := m) (l := l) (by omega) (by omega) (cw_okr_f (fun c => sp_ko_keep (by decide) c) (cw_okr_up (by decide) ho)) (cw_row_f (fun c => sp_ko_keep (by decide) c) (fun c => sp_ko_keep (by decide) c) (cw_row_up (by decide) hr)) hm ((congrArg cw_cl (Eq.trans (sp_ko_keep (by decide) _) (sh_u2_row (by decide) _))).trans hk_s)) ⟨(Nat.le_of_ble_eq_true rfl), (Nat.le_of_ble_eq_true rfl), (Nat.le_of_ble_eq_true rfl), (Nat.le_of_ble_eq_true rfl)⟩ ?_
  show sh_cW _ _ (_, _, [.int (sp_b (sp_mq (sp_ko (sh_u2 K 2 t 0) t s) t s m l))]) (sp_ko (sh_u2 K 2 t 0) t s) L _ _ _ _ _
  refine sh_cp (fun w Z k => sh_if_ne (tgt := 111) dc_Hall_acquire_81 (by decide) (fun _ => k) (fun z => absurd z c3_81)) ?_
  refine sh_cp (fun w Z k => sh_dload dc_Hall_acquire_111 rfl k) ?_
  refine sh_cp (fun w Z k => sh_dconst0 dc_Hall_acquire_113 k) ?_
  refine sh_cp (fun w Z k => sh_dcmp dc_Hall_acquire_114 k) ?_
  refine sh_cp (fun w Z k => sh_if_ne (tgt := 125) dc_Hall_acquire_115 (by decide) (fun z => absurd c4_115 z) (fun _ => k)) ?_
  refine sh_cp (fun w Z k => sh_aload dc_Hall_acquire_118 rfl k) ?_
  refine sh_cp (fun w Z k => sh_iconst (v := 2) dc_Hall_acquire_120 (by decide) k) ?_
  refine sh_ccall (fun w hw => sh_virt (As := [.int 2]) dc_Hall_acquire_121 lm_Worker_finish ln_Hall_89 wd_496 wd_6 rfl rfl (Nat.le_of_ble_eq_true rfl) (hw _ _ (cw_ow (by omega))) rfl) (ct_Worker_finish_1 (t := t) (x := 2) (by omega)) ⟨(Nat.le_of_ble_eq_true rfl), (Nat.le_of_ble_eq_true rfl), (Nat.le_of_ble_eq_true rfl), (Nat.le_of_ble_eq_true rfl)⟩ ?_
  show sh_cW _ _ (_, _, [.int 2]) (sh_u2 (sh_u2 (sp_ko (sh_u2 K 2 t 0) t s) 4 t 2) 27 t 0) L _ _ _ _ _
  exact sh_ce (fun w => sh_ireturn dc_Hall_acquire_124 rfl rfl (by decide) (by decide))
theorem ct_Hall_acquire_Lock_7 {A : Nat → Nat} {K : sh_II} {L : sh_DD} {t : Nat} {s : Nat} {m : Int32} {y : UInt64} {l : List Nat} (ht : t < 6) (hs : s < 8) (hm : m = 0 ∨ m = 1) (hl1 : ¬ (Op.cmpValue (FP.dcmp y (FP.i2d (-1))) .l) < 0) (hl2 : (Op.cmpValue (FP.dcmp y (FP.i2d 1000)) .g) ≤ 0) (hp : (K 5 t) = -1) (ho : cw_okr K) (hr : cw_row K s l) (hlen : l.length < 6) (hk_s : cw_cl (K 12 s) = 4) (v0_43 : narrow .boolean (.int (K 2 t)) = .int (K 2 t)) (c1_46 : (K 2 t) = 0) (c2_62 : ¬ sp_kt (sh_u2 K 2 t 0) t s = true) (c3_81 : ¬ (sp_b (sp_mq (sp_ko (sh_u2 K 2 t 0) t s) t s m l)) = 0) (c4_115 : ¬ (Op.cmpValue (FP.dcmp y FP.dconst0) .l) = 0) (c5_157 : (Op.cmpValue (FP.dcmp y FP.dconst0) .l) ≤ 0) : sh_cM A md_Hall_acquire [.ref (A 0), .int (nI t), .int (nI s), .int m, .double y] K L (.inl (some (.int ((sp_enq (sh_u2 (sh_u2 (sp_ko (sh_u2 K 2 t 0) t s) 9 t 1) 10 t 1) s t m l) 4 t)))) (sp_enq (sh_u2 (sh_u2 (sp_ko (sh_u2 K 2 t 0) t s) 9 t 1) 10 t 1) s t m l) (sh_u2 L 8 t (L 11 0)) := by
  refine sh_cp (fun w Z k => sh_aload_n dc_Hall_acquire_0 rfl rfl k) ?_
  refine sh_cp (fun w Z k => sh_iload_n dc_Hall_acquire_1 rfl rfl k) ?_
  refine sh_ccall (fun w hw => sh_virt (As := [.int (nI t)]) dc_Hall_acquire_2 lm_Hall_workerAt ln_Hall_62 wd_448 wd_3 rfl rfl (Nat.le_of_ble_eq_true rfl) (hw _ _ cw_o0) rfl) (ct_Hall_workerAt_1 (t := t) (by omega)) ⟨(Nat.le_of_ble_eq_true rfl), (Nat.le_of_ble_eq_true rfl), (Nat.le_of_ble_eq_true rfl), (Nat.le_of_ble_eq_true rfl)⟩ ?_
  show sh_cW _ _ (_, _, [.ref (A (10 + t))]) K L _ _ _ _ _
  refine sh_cp (fun w Z k => sh_astore dc_Hall_acquire_5 (by decide) k) ?_
  refine sh_cp (fun w Z k => sh_iload_n dc_Hall_acquire_7 rfl rfl k) ?_
  refine sh_cp (fun w Z k => sh_iconst (v := 0) dc_Hall_acquire_8 (by decide) k) ?_
  refine sh_cp (fun w Z k => sh_iconst (v := 1) dc_Hall_acquire_9 (by decide) k) ?_
  refine sh_ccall (fun w hw => sh_stat (As := [.int m, .int 0, .int 1]) dc_Hall_acquire_10 lm_Hall_checkNumber ln_Hall_39 wd_191 wd_49 rfl rfl (Nat.le_of_ble_eq_true rfl)) (ct_Hall_checkNumber_2 (x := m) (lo := 0) (hi := 1) (sp_m0 hm) (sp_m1 hm)) ⟨(Nat.le_of_ble_eq_true rfl), (Nat.le_of_ble_eq_true rfl), (Nat.le_of_ble_eq_true rfl), (Nat.le_of_ble_eq_true rfl)⟩ ?_
  show sh_cW _ _ (_, _, []) K L _ _ _ _ _
  refine sh_cp (fun w Z k => sh_dload dc_Hall_acquire_13 rfl k) ?_
  refine sh_cp (fun w Z k => sh_iconst (v := (-1)) dc_Hall_acquire_15 (by decide) k) ?_
  refine sh_cp (fun w Z k => sh_sipush (v := 1000) dc_Hall_acquire_16 (by decide) k) ?_
  refine sh_ccall (fun w hw => sh_stat (As := [.double y, .int (-1), .int 1000]) dc_Hall_acquire_19 lm_Hall_checkAmount ln_Hall_66 wd_451 wd_49 rfl rfl (Nat.le_of_ble_eq_true rfl)) (ct_Hall_checkAmount_2 (x := y) (lo := (-1)) (hi := 1000) hl1 hl2) ⟨(Nat.le_of_ble_eq_true rfl), (Nat.le_of_ble_eq_true rfl), (Nat.le_of_ble_eq_true rfl), (Nat.le_of_ble_eq_true rfl)⟩ ?_
  show sh_cW _ _ (_, _, []) K L _ _ _ _ _
  refine sh_cp (fun w Z k => sh_aload_n dc_Hall_acquire_22 rfl rfl k) ?_
  refine sh_cp (fun w Z k => sh_iload_n dc_Hall_acquire_23 rfl rfl k) ?_
  refine sh_ccall (fun w hw => sh_virt (As := [.int (nI s)]) dc_Hall_acquire_24 lm_Hall_syncAt ln_Hall_73 wd_272 wd_2 rfl rfl (Nat.le_of_ble_eq_true rfl) (hw _ _ cw_o0) rfl) (ct_Hall_syncAt_2 (s := s) (by omega) (cw_nz hk_s (by decide))) ⟨(Nat.le_of_ble_eq_true rfl), (Nat.le_of_ble_eq_true rfl), (Nat.le_of_ble_eq_true rfl), (Nat.le_of_ble_eq_true rfl)⟩ ?_
  show sh_cW _ _ (_, _, [.ref (A (20 + s))]) K L _ _ _ _ _
  refine sh_cp (fun w Z k => sh_astore dc_Hall_acquire_27 (by decide) k) ?_
  refine sh_cp (fun w Z k => sh_aload dc_Hall_acquire_29 rfl k) ?_
  refine sh_ccall (fun w hw => sh_stat (As := [.ref (A (10 + t))]) dc_Hall_acquire_31 lm_Hall_checkRunning ln_Hall_77 wd_463 wd_49 rfl rfl (Nat.le_of_ble_eq_true rfl)) (ct_Hall_checkRunning_1 (t := t) (by omega) hp) ⟨(Nat.le_of_ble_eq_true rfl), (Nat.le_of_ble_eq_true rfl), (Nat.le_of_ble_eq_true rfl), (Nat.le_of_ble_eq_true rfl)⟩ ?_
  show sh_cW _ _ (_, _, []) K L _ _ _ _ _
  refine sh_cp (fun w Z k => sh_aload dc_Hall_acquire_34 rfl k) ?_
  refine sh_ccall (fun w hw => sh_stat (As := [.ref (A (20 + s))]) dc_Hall_acquire_36 lm_Hall_gateOf ln_Hall_81 wd_471 wd_49 rfl rfl (Nat.le_of_ble_eq_true rfl)) (ct_Hall_gateOf_Lock_1 (s := s) (by omega) hk_s) ⟨(Nat.le_of_ble_eq_true rfl), (Nat.le_of_ble_eq_true rfl), (Nat.le_of_ble_eq_true rfl), (Nat.le_of_ble_eq_true rfl)⟩ ?_
  show sh_cW _ _ (_, _, [.ref (A (20 + s))]) K L _ _ _ _ _
  refine sh_cp (fun w Z k => sh_astore dc_Hall_acquire_39 (by decide) k) ?_
  refine sh_cp (fun w Z k => sh_aload dc_Hall_acquire_41 rfl k) ?_
  refine sh_ccall (fun w hw => sh_virt (As := []) dc_Hall_acquire_43 lm_Worker_dropFlag ln_Hall_85 wd_492 wd_5 rfl rfl (Nat.le_of_ble_eq_true rfl) (hw _ _ (cw_ow (by omega))) rfl) (ct_Worker_dropFlag_1 (t := t) (by omega) v0_43) ⟨(Nat.le_of_ble_eq_true rfl), (Nat.le_of_ble_eq_true rfl), (Nat.le_of_ble_eq_true rfl), (Nat.le_of_ble_eq_true rfl)⟩ ?_
  show sh_cW _ _ (_, _, [.int (K 2 t)]) (sh_u2 K 2 t 0) L _ _ _ _ _
  refine sh_cp (fun w Z k => sh_if_eq (tgt := 56) dc_Hall_acquire_46 (by decide) (fun _ => k) (fun z => absurd c1_46 z)) ?_
  refine sh_cp (fun w Z k => sh_aload_n dc_Hall_acquire_56 rfl rfl k) ?_
  refine sh_cp (fun w Z k => sh_aload dc_Hall_acquire_57 rfl k) ?_
  refine sh_cp (fun w Z k => sh_aload dc_Hall_acquire_59 rfl k) ?_
  refine sh_cp (fun w Z k => sh_iload_n dc_Hall_acquire_61 rfl rfl k) ?_
  refine sh_ccall (fun w hw => sh_virt (As := [.ref (A (10 + t)), .ref (A (20 + s)), .int (nI s)]) dc_Hall_acquire_62 lm_Hall_keepOrder ln_Hall_92 wd_500 wd_7 rfl rfl (Nat.le_of_ble_eq_true rfl) (hw _ _ cw_o0) rfl) (cl_ko (t := t) (s := s) (by omega) (by omega) (cw_okr_up (by decide) ho) ((congrArg cw_cl (sh_u2_row (by decide) _)).trans hk_s) c2_62) ⟨(Nat.le_of_ble_eq_true rfl), (Nat.le_of_ble_eq_true rfl), (Nat.le_of_ble_eq_true rfl), (Nat.le_of_ble_eq_true rfl)⟩ ?_
  show sh_cW _ _ (_, _, []) (sp_ko (sh_u2 K 2 t 0) t s) L _ _ _ _ _
  refine sh_cp (fun w Z k => sh_aload dc_Hall_acquire_65 rfl k) ?_
  refine sh_cp (fun w Z k => sh_aload dc_Hall_acquire_67 rfl k) ?_
  refine sh_cp (fun w Z k => sh_iload_n dc_Hall_acquire_69 rfl rfl k) ?_
  refine sh_ccall (fun w hw => sh_virtU (As := [.ref (A (10 + t)), .int m]) dc_Hall_acquire_70 lm_Gate_checkWish wd_528 wd_530 (Or.inr ⟨_, _, _, wd_529, wd_540⟩) ⟨by decide, by decide⟩ (by decide +kernel) wd_529 wd_532 rfl rfl (Nat.le_of_ble_eq_true rfl) (hw _ _ (cw_ol (by omega) ((congrArg cw_cl (Eq.trans (sp_ko_keep (by decide) _) (sh_u2_row (by decide) _))).trans hk_s))) rfl) (ct_Gate_checkWish_Lock_1 (t := t) (s := s) (m := m) (by omega) (by omega) ((congrArg cw_cl (Eq.trans (sp_ko_keep (by decide) _) (sh_u2_row (by decide) _))).trans hk_s)) ⟨(Nat.le_of_ble_eq_true rfl), (Nat.le_of_ble_eq_true rfl), (Nat.le_of_ble_eq_true rfl), (Nat.le_of_ble_eq_true rfl)⟩ ?_
  show sh_cW _ _ (_, _, []) (sp_ko (sh_u2 K 2 t 0) t s) L _ _ _ _ _
  refine sh_cp (fun w Z k => sh_aload dc_Hall_acquire_73 rfl k) ?_
  refine sh_cp (fun w Z k => sh_aload dc_Hall_acquire_75 rfl k) ?_
  refine sh_cp (fun w Z k => sh_iload_n dc_Hall_acquire_77 rfl rfl k) ?_
  refine sh_ccall (fun w hw => sh_virtU (As := [.ref (A (10 + t)), .int m]) dc_Hall_acquire_78 lm_Lock_mustQueue wd_541 wd_543 (Or.inl wd_542) ⟨by decide, by decide⟩ (by decide +kernel) wd_548 wd_547 rfl rfl (Nat.le_of_ble_eq_true rfl) (hw _ _ (cw_ol (by omega) ((congrArg cw_cl (Eq.trans (sp_ko_keep (by decide) _) (sh_u2_row (by decide) _))).trans hk_s))) rfl) (cl_mq_Lock (s := s) (t := t) (m := m) (l := l) (by omega) (by omega) (cw_okr_f (fun c => sp_ko_keep (by decide) c) (cw_okr_up (by decide) ho)) (cw_row_f (fun c => sp_ko_keep (by decide) c) (fun c => sp_ko_keep (by decide) c) (cw_row_up (by decide) hr)) hm ((congrArg cw_cl (Eq.trans (sp_ko_keep (by decide) _) (sh_u2_row (by decide) _))).trans hk_s)) ⟨(Nat.le_of_ble_eq_true rfl), (Nat.le_of_ble_eq_true rfl), (Nat.le_of_ble_eq_true rfl), (Nat.le_of_ble_eq_true rfl)⟩ ?_
  show sh_cW _ _ (_, _, [.int (sp_b (sp_mq (sp_ko (sh_u2 K 2 t 0) t s) t s m l))]) (sp_ko (sh_u2 K 2 t 0) t s) L _ _ _ _ _
  refine sh_cp (fun w Z k => sh_if_ne (tgt := 111) dc_Hall_acquire_81 (by decide) (fun _ => k) (fun z => absurd z c3_81)) ?_
  refine sh_cp (fun w Z k => sh_dload dc_Hall_acquire_111 rfl k) ?_
  refine sh_cp (fun w Z k => sh_dconst0 dc_Hall_acquire_113 k) ?_
  refine sh_cp (fun w Z k => sh_dcmp dc_Hall_acquire_114 k) ?_
  refine sh_cp (fun w Z k => sh_if_ne (tgt := 125) dc_Hall_acquire_115 (by decide) (fun _ => k) (fun z => absurd z c4_115)) ?_
  refine sh_cp (fun w Z k => sh_aload dc_Hall_acquire_125 rfl k) ?_
  refine sh_cp (fun w Z k => sh_iconst (v := 1) dc_Hall_acquire_127 (by decide) k) ?_
  refine sh_cput (K1 := (sh_u2 (sp_ko (sh_u2 K 2 t 0) t s) 9 t 1)) (L1 := L) (10 + t) 9 dc_Hall_acquire_128 (cw_ow (by omega)) rfl (by decide) fl_Hall_113 rfl rfl rfl rfl pd_I rfl rfl (cq_Worker_9 (by omega)) (fun i hi => cw_upI (by decide) hi) ?_
  refine sh_cp (fun w Z k => sh_aload dc_Hall_acquire_131 rfl k) ?_
  refine sh_cp (fun w Z k => sh_iconst (v := 1) dc_Hall_acquire_133 (by decide) k) ?_
  refine sh_cput (K1 := (sh_u2 (sh_u2 (sp_ko (sh_u2 K 2 t 0) t s) 9 t 1) 10 t 1)) (L1 := L) (10 + t) 10 dc_Hall_acquire_134 (cw_ow (by omega)) rfl (by decide) fl_Hall_116 rfl rfl rfl rfl pd_I rfl rfl (cq_Worker_10 (by omega)) (fun i hi => cw_upI (by decide) hi) ?_
  refine sh_cp (fun w Z k => sh_aload dc_Hall_acquire_137 rfl k) ?_
  refine sh_cp (fun w Z k => sh_aload dc_Hall_acquire_139 rfl k) ?_
  refine sh_cp (fun w Z k => sh_iload_n dc_Hall_acquire_141 rfl rfl k) ?_
  refine sh_cp (fun w Z k => sh_aload_n dc_Hall_acquire_142 rfl rfl k) ?_
  refine sh_cget 0 4 dc_Hall_acquire_143 cw_o0 rfl (by decide) fl_Hall_35 rfl rfl rfl rfl ?_
  refine sh_ccall (fun w hw => sh_virtU (As := [.ref (A (10 + t)), .int m, .double (L 11 0)]) dc_Hall_acquire_146 lm_Sync_enqueue wd_604 wd_605 (Or.inl wd_606) ⟨by decide, by decide⟩ (by decide +kernel) wd_611 wd_608 rfl rfl (Nat.le_of_ble_eq_true rfl) (hw _ _ (cw_ol (by omega) ((congrArg cw_cl (Eq.trans (sh_u2_row (by decide) _) (Eq.trans (sh_u2_row (by decide) _) (Eq.trans (sp_ko_keep (by decide) _) (sh_u2_row (by decide) _))))).trans hk_s))) rfl) (cl_enq_Lock (s := s) (t := t) (m := m) (a := L 11 0) (l := l) (by omega) (by omega) (cw_row_up (by decide) (cw_row_up (by decide) (cw_row_f (fun c => sp_ko_keep (by decide) c) (fun c => sp_ko_keep (by decide) c) (cw_row_up (by decide) hr)))) hlen ((congrArg cw_cl (Eq.trans (sh_u2_row (by decide) _) (Eq.trans (sh_u2_row (by decide) _) (Eq.trans (sp_ko_keep (by decide) _) (sh_u2_row (by decide) _))))).trans hk_s)) ⟨(Nat.le_of_ble_eq_true rfl), (Nat.le_of_ble_eq_true rfl), (Nat.le_of_ble_eq_true rfl), (Nat.le_of_ble_eq_true rfl)⟩ ?_
  show sh_cW _ _ (_, _, []) (sp_enq (sh_u2 (sh_u2 (sp_ko (sh_u2 K 2 t 0) t s) 9 t 1) 10 t 1) s t m l) (sh_u2 L 8 t (L 11 0)) _ _ _ _ _
  refine sh_cp (fun w Z k => sh_aload dc_Hall_acquire_149 rfl k) ?_
  refine sh_cp (fun w Z k => sh_aload_n dc_Hall_acquire_151 rfl rfl k) ?_
  refine sh_cget 0 4 dc_Hall_acquire_152 cw_o0 rfl (by decide) fl_Hall_35 rfl rfl rfl rfl ?_
  refine sh_ctd (show (sh_u2 L 8 t (L 11 0)) 11 0 = L 11 0 from (sh_u2_row (by decide) _)) ?_
  refine sh_cp (fun w Z k => sh_dload dc_Hall_acquire_155 rfl k) ?_
  refine sh_ccall (fun w hw => sh_virt (As := [.double (L 11 0), .double y]) dc_Hall_acquire_157 lm_Worker_setEnd ln_Hall_123 wd_619 wd_17 rfl rfl (Nat.le_of_ble_eq_true rfl) (hw _ _ (cw_ow (by omega))) rfl) (ct_Worker_setEnd_1 (t := t) (a := L 11 0) (b := y) (by omega) c5_157) ⟨(Nat.le_of_ble_eq_true rfl), (Nat.le_of_ble_eq_true rfl), (Nat.le_of_ble_eq_true rfl), (Nat.le_of_ble_eq_true rfl)⟩ ?_
  show sh_cW _ _ (_, _, []) (sp_enq (sh_u2 (sh_u2 (sp_ko (sh_u2 K 2 t 0) t s) 9 t 1) 10 t 1) s t m l) (sh_u2 L 8 t (L 11 0)) _ _ _ _ _
  refine sh_cp (fun w Z k => sh_aload dc_Hall_acquire_160 rfl k) ?_
  refine sh_cget (10 + t) 3 dc_Hall_acquire_162 (cw_ow (by omega)) rfl (by decide) fl_Hall_127 rfl rfl rfl rfl ?_
  exact sh_ce (fun w => sh_ireturn dc_Hall_acquire_165 rfl rfl (by decide) (by decide))
theorem ct_Hall_acquire_Lock_8 {A : Nat → Nat} {K : sh_II} {L : sh_DD} {t : Nat} {s : Nat} {m : Int32} {y : UInt64} {l : List Nat} (ht : t < 6) (hs : s < 8) (hm : m = 0 ∨ m = 1) (hl1 : ¬ (Op.cmpValue (FP.dcmp y (FP.i2d (-1))) .l) < 0) (hl2 : (Op.cmpValue (FP.dcmp y (FP.i2d 1000)) .g) ≤ 0) (hp : (K 5 t) = -1) (ho : cw_okr K) (hr : cw_row K s l) (hlen : l.length < 6) (hk_s : cw_cl (K 12 s) = 4) (v0_43 : narrow .boolean (.int (K 2 t)) = .int (K 2 t)) (c1_46 : (K 2 t) = 0) (c2_62 : ¬ sp_kt (sh_u2 K 2 t 0) t s = true) (c3_81 : ¬ (sp_b (sp_mq (sp_ko (sh_u2 K 2 t 0) t s) t s m l)) = 0) (c4_115 : ¬ (Op.cmpValue (FP.dcmp y FP.dconst0) .l) = 0) (c5_157 : ¬ (Op.cmpValue (FP.dcmp y FP.dconst0) .l) ≤ 0) (v6_157 : vf_n64 (FP.dadd (L 11 0) y)) : sh_cM A md_Hall_acquire [.ref (A 0), .int (nI t), .int (nI s), .int m, .double y] K L (.inl (some (.int ((sh_u2 (sp_enq (sh_u2 (sh_u2 (sp_ko (sh_u2 K 2 t 0) t s) 9 t 1) 10 t 1) s t m l) 26 t 1) 4 t)))) (sh_u2 (sp_enq (sh_u2 (sh_u2 (sp_ko (sh_u2 K 2 t 0) t s) 9 t 1) 10 t 1) s t m l) 26 t 1) (sh_u2 (sh_u2 L 8 t (L 11 0)) 7 t (FP.dadd (L 11 0) y)) := by
  refine sh_cp (fun w Z k => sh_aload_n dc_Hall_acquire_0 rfl rfl k) ?_
  refine sh_cp (fun w Z k => sh_iload_n dc_Hall_acquire_1 rfl rfl k) ?_
  refine sh_ccall (fun w hw => sh_virt (As := [.int (nI t)]) dc_Hall_acquire_2 lm_Hall_workerAt ln_Hall_62 wd_448 wd_3 rfl rfl (Nat.le_of_ble_eq_true rfl) (hw _ _ cw_o0) rfl) (ct_Hall_workerAt_1 (t := t) (by omega)) ⟨(Nat.le_of_ble_eq_true rfl), (Nat.le_of_ble_eq_true rfl), (Nat.le_of_ble_eq_true rfl), (Nat.le_of_ble_eq_true rfl)⟩ ?_
  show sh_cW _ _ (_, _, [.ref (A (10 + t))]) K L _ _ _ _ _
  refine sh_cp (fun w Z k => sh_astore dc_Hall_acquire_5 (by decide) k) ?_
  refine sh_cp (fun w Z k => sh_iload_n dc_Hall_acquire_7 rfl rfl k) ?_
  refine sh_cp (fun w Z k => sh_iconst (v := 0) dc_Hall_acquire_8 (by decide) k) ?_
  refine sh_cp (fun w Z k => sh_iconst (v := 1) dc_Hall_acquire_9 (by decide) k) ?_
  refine sh_ccall (fun w hw => sh_stat (As := [.int m, .int 0, .int 1]) dc_Hall_acquire_10 lm_Hall_checkNumber ln_Hall_39 wd_191 wd_49 rfl rfl (Nat.le_of_ble_eq_true rfl)) (ct_Hall_checkNumber_2 (x := m) (lo := 0) (hi := 1) (sp_m0 hm) (sp_m1 hm)) ⟨(Nat.le_of_ble_eq_true rfl), (Nat.le_of_ble_eq_true rfl), (Nat.le_of_ble_eq_true rfl), (Nat.le_of_ble_eq_true rfl)⟩ ?_
  show sh_cW _ _ (_, _, []) K L _ _ _ _ _
  refine sh_cp (fun w Z k => sh_dload dc_Hall_acquire_13 rfl k) ?_
  refine sh_cp (fun w Z k => sh_iconst (v := (-1)) dc_Hall_acquire_15 (by decide) k) ?_
  refine sh_cp (fun w Z k => sh_sipush (v := 1000) dc_Hall_acquire_16 (by decide) k) ?_
  refine sh_ccall (fun w hw => sh_stat (As := [.double y, .int (-1), .int 1000]) dc_Hall_acquire_19 lm_Hall_checkAmount ln_Hall_66 wd_451 wd_49 rfl rfl (Nat.le_of_ble_eq_true rfl)) (ct_Hall_checkAmount_2 (x := y) (lo := (-1)) (hi := 1000) hl1 hl2) ⟨(Nat.le_of_ble_eq_true rfl), (Nat.le_of_ble_eq_true rfl), (Nat.le_of_ble_eq_true rfl), (Nat.le_of_ble_eq_true rfl)⟩ ?_
  show sh_cW _ _ (_, _, []) K L _ _ _ _ _
  refine sh_cp (fun w Z k => sh_aload_n dc_Hall_acquire_22 rfl rfl k) ?_
  refine sh_cp (fun w Z k => sh_iload_n dc_Hall_acquire_23 rfl rfl k) ?_
  refine sh_ccall (fun w hw => sh_virt (As := [.int (nI s)]) dc_Hall_acquire_24 lm_Hall_syncAt ln_Hall_73 wd_272 wd_2 rfl rfl (Nat.le_of_ble_eq_true rfl) (hw _ _ cw_o0) rfl) (ct_Hall_syncAt_2 (s := s) (by omega) (cw_nz hk_s (by decide))) ⟨(Nat.le_of_ble_eq_true rfl), (Nat.le_of_ble_eq_true rfl), (Nat.le_of_ble_eq_true rfl), (Nat.le_of_ble_eq_true rfl)⟩ ?_
  show sh_cW _ _ (_, _, [.ref (A (20 + s))]) K L _ _ _ _ _
  refine sh_cp (fun w Z k => sh_astore dc_Hall_acquire_27 (by decide) k) ?_
  refine sh_cp (fun w Z k => sh_aload dc_Hall_acquire_29 rfl k) ?_
  refine sh_ccall (fun w hw => sh_stat (As := [.ref (A (10 + t))]) dc_Hall_acquire_31 lm_Hall_checkRunning ln_Hall_77 wd_463 wd_49 rfl rfl (Nat.le_of_ble_eq_true rfl)) (ct_Hall_checkRunning_1 (t := t) (by omega) hp) ⟨(Nat.le_of_ble_eq_true rfl), (Nat.le_of_ble_eq_true rfl), (Nat.le_of_ble_eq_true rfl), (Nat.le_of_ble_eq_true rfl)⟩ ?_
  show sh_cW _ _ (_, _, []) K L _ _ _ _ _
  refine sh_cp (fun w Z k => sh_aload dc_Hall_acquire_34 rfl k) ?_
  refine sh_ccall (fun w hw => sh_stat (As := [.ref (A (20 + s))]) dc_Hall_acquire_36 lm_Hall_gateOf ln_Hall_81 wd_471 wd_49 rfl rfl (Nat.le_of_ble_eq_true rfl)) (ct_Hall_gateOf_Lock_1 (s := s) (by omega) hk_s) ⟨(Nat.le_of_ble_eq_true rfl), (Nat.le_of_ble_eq_true rfl), (Nat.le_of_ble_eq_true rfl), (Nat.le_of_ble_eq_true rfl)⟩ ?_
  show sh_cW _ _ (_, _, [.ref (A (20 + s))]) K L _ _ _ _ _
  refine sh_cp (fun w Z k => sh_astore dc_Hall_acquire_39 (by decide) k) ?_
  refine sh_cp (fun w Z k => sh_aload dc_Hall_acquire_41 rfl k) ?_
  refine sh_ccall (fun w hw => sh_virt (As := []) dc_Hall_acquire_43 lm_Worker_dropFlag ln_Hall_85 wd_492 wd_5 rfl rfl (Nat.le_of_ble_eq_true rfl) (hw _ _ (cw_ow (by omega))) rfl) (ct_Worker_dropFlag_1 (t := t) (by omega) v0_43) ⟨(Nat.le_of_ble_eq_true rfl), (Nat.le_of_ble_eq_true rfl), (Nat.le_of_ble_eq_true rfl), (Nat.le_of_ble_eq_true rfl)⟩ ?_
  show sh_cW _ _ (_, _, [.int (K 2 t)]) (sh_u2 K 2 t 0) L _ _ _ _ _
  refine sh_cp (fun w Z k => sh_if_eq (tgt := 56) dc_Hall_acquire_46 (by decide) (fun _ => k) (fun z => absurd c1_46 z)) ?_
  refine sh_cp (fun w Z k => sh_aload_n dc_Hall_acquire_56 rfl rfl k) ?_
  refine sh_cp (fun w Z k => sh_aload dc_Hall_acquire_57 rfl k) ?_
  refine sh_cp (fun w Z k => sh_aload dc_Hall_acquire_59 rfl k) ?_
  refine sh_cp (fun w Z k => sh_iload_n dc_Hall_acquire_61 rfl rfl k) ?_
  refine sh_ccall (fun w hw => sh_virt (As := [.ref (A (10 + t)), .ref (A (20 + s)), .int (nI s)]) dc_Hall_acquire_62 lm_Hall_keepOrder ln_Hall_92 wd_500 wd_7 rfl rfl (Nat.le_of_ble_eq_true rfl) (hw _ _ cw_o0) rfl) (cl_ko (t := t) (s := s) (by omega) (by omega) (cw_okr_up (by decide) ho) ((congrArg cw_cl (sh_u2_row (by decide) _)).trans hk_s) c2_62) ⟨(Nat.le_of_ble_eq_true rfl), (Nat.le_of_ble_eq_true rfl), (Nat.le_of_ble_eq_true rfl), (Nat.le_of_ble_eq_true rfl)⟩ ?_
  show sh_cW _ _ (_, _, []) (sp_ko (sh_u2 K 2 t 0) t s) L _ _ _ _ _
  refine sh_cp (fun w Z k => sh_aload dc_Hall_acquire_65 rfl k) ?_
  refine sh_cp (fun w Z k => sh_aload dc_Hall_acquire_67 rfl k) ?_
  refine sh_cp (fun w Z k => sh_iload_n dc_Hall_acquire_69 rfl rfl k) ?_
  refine sh_ccall (fun w hw => sh_virtU (As := [.ref (A (10 + t)), .int m]) dc_Hall_acquire_70 lm_Gate_checkWish wd_528 wd_530 (Or.inr ⟨_, _, _, wd_529, wd_540⟩) ⟨by decide, by decide⟩ (by decide +kernel) wd_529 wd_532 rfl rfl (Nat.le_of_ble_eq_true rfl) (hw _ _ (cw_ol (by omega) ((congrArg cw_cl (Eq.trans (sp_ko_keep (by decide) _) (sh_u2_row (by decide) _))).trans hk_s))) rfl) (ct_Gate_checkWish_Lock_1 (t := t) (s := s) (m := m) (by omega) (by omega) ((congrArg cw_cl (Eq.trans (sp_ko_keep (by decide) _) (sh_u2_row (by decide) _))).trans hk_s)) ⟨(Nat.le_of_ble_eq_true rfl), (Nat.le_of_ble_eq_true rfl), (Nat.le_of_ble_eq_true rfl), (Nat.le_of_ble_eq_true rfl)⟩ ?_
  show sh_cW _ _ (_, _, []) (sp_ko (sh_u2 K 2 t 0) t s) L _ _ _ _ _
  refine sh_cp (fun w Z k => sh_aload dc_Hall_acquire_73 rfl k) ?_
  refine sh_cp (fun w Z k => sh_aload dc_Hall_acquire_75 rfl k) ?_
  refine sh_cp (fun w Z k => sh_iload_n dc_Hall_acquire_77 rfl rfl k) ?_
  refine sh_ccall (fun w hw => sh_virtU (As := [.ref (A (10 + t)), .int m]) dc_Hall_acquire_78 lm_Lock_mustQueue wd_541 wd_543 (Or.inl wd_542) ⟨by decide, by decide⟩ (by decide +kernel) wd_548 wd_547 rfl rfl (Nat.le_of_ble_eq_true rfl) (hw _ _ (cw_ol (by omega) ((congrArg cw_cl (Eq.trans (sp_ko_keep (by decide) _) (sh_u2_row (by decide) _))).trans hk_s))) rfl) (cl_mq_Lock (s := s) (t := t) (m := m) (l := l) (by omega) (by omega) (cw_okr_f (fun c => sp_ko_keep (by decide) c) (cw_okr_up (by decide) ho)) (cw_row_f (fun c => sp_ko_keep (by decide) c) (fun c => sp_ko_keep (by decide) c) (cw_row_up (by decide) hr)) hm ((congrArg cw_cl (Eq.trans (sp_ko_keep (by decide) _) (sh_u2_row (by decide) _))).trans hk_s)) ⟨(Nat.le_of_ble_eq_true rfl), (Nat.le_of_ble_eq_true rfl), (Nat.le_of_ble_eq_true rfl), (Nat.le_of_ble_eq_true rfl)⟩ ?_
  show sh_cW _ _ (_, _, [.int (sp_b (sp_mq (sp_ko (sh_u2 K 2 t 0) t s) t s m l))]) (sp_ko (sh_u2 K 2 t 0) t s) L _ _ _ _ _
  refine sh_cp (fun w Z k => sh_if_ne (tgt := 111) dc_Hall_acquire_81 (by decide) (fun _ => k) (fun z => absurd z c3_81)) ?_
  refine sh_cp (fun w Z k => sh_dload dc_Hall_acquire_111 rfl k) ?_
  refine sh_cp (fun w Z k => sh_dconst0 dc_Hall_acquire_113 k) ?_
  refine sh_cp (fun w Z k => sh_dcmp dc_Hall_acquire_114 k) ?_
  refine sh_cp (fun w Z k => sh_if_ne (tgt := 125) dc_Hall_acquire_115 (by decide) (fun _ => k) (fun z => absurd z c4_115)) ?_
  refine sh_cp (fun w Z k => sh_aload dc_Hall_acquire_125 rfl k) ?_
  refine sh_cp (fun w Z k => sh_iconst (v := 1) dc_Hall_acquire_127 (by decide) k) ?_
  refine sh_cput (K1 := (sh_u2 (sp_ko (sh_u2 K 2 t 0) t s) 9 t 1)) (L1 := L) (10 + t) 9 dc_Hall_acquire_128 (cw_ow (by omega)) rfl (by decide) fl_Hall_113 rfl rfl rfl rfl pd_I rfl rfl (cq_Worker_9 (by omega)) (fun i hi => cw_upI (by decide) hi) ?_
  refine sh_cp (fun w Z k => sh_aload dc_Hall_acquire_131 rfl k) ?_
  refine sh_cp (fun w Z k => sh_iconst (v := 1) dc_Hall_acquire_133 (by decide) k) ?_
  refine sh_cput (K1 := (sh_u2 (sh_u2 (sp_ko (sh_u2 K 2 t 0) t s) 9 t 1) 10 t 1)) (L1 := L) (10 + t) 10 dc_Hall_acquire_134 (cw_ow (by omega)) rfl (by decide) fl_Hall_116 rfl rfl rfl rfl pd_I rfl rfl (cq_Worker_10 (by omega)) (fun i hi => cw_upI (by decide) hi) ?_
  refine sh_cp (fun w Z k => sh_aload dc_Hall_acquire_137 rfl k) ?_
  refine sh_cp (fun w Z k => sh_aload dc_Hall_acquire_139 rfl k) ?_
  refine sh_cp (fun w Z k => sh_iload_n dc_Hall_acquire_141 rfl rfl k) ?_
  refine sh_cp (fun w Z k => sh_aload_n dc_Hall_acquire_142 rfl rfl k) ?_
  refine sh_cget 0 4 dc_Hall_acquire_143 cw_o0 rfl (by decide) fl_Hall_35 rfl rfl rfl rfl ?_
  refine sh_ccall (fun w hw => sh_virtU (As := [.ref (A (10 + t)), .int m, .double (L 11 0)]) dc_Hall_acquire_146 lm_Sync_enqueue wd_604 wd_605 (Or.inl wd_606) ⟨by decide, by decide⟩ (by decide +kernel) wd_611 wd_608 rfl rfl (Nat.le_of_ble_eq_true rfl) (hw _ _ (cw_ol (by omega) ((congrArg cw_cl (Eq.trans (sh_u2_row (by decide) _) (Eq.trans (sh_u2_row (by decide) _) (Eq.trans (sp_ko_keep (by decide) _) (sh_u2_row (by decide) _))))).trans hk_s))) rfl) (cl_enq_Lock (s := s) (t := t) (m := m) (a := L 11 0) (l := l) (by omega) (by omega) (cw_row_up (by decide) (cw_row_up (by decide) (cw_row_f (fun c => sp_ko_keep (by decide) c) (fun c => sp_ko_keep (by decide) c) (cw_row_up (by decide) hr)))) hlen ((congrArg cw_cl (Eq.trans (sh_u2_row (by decide) _) (Eq.trans (sh_u2_row (by decide) _) (Eq.trans (sp_ko_keep (by decide) _) (sh_u2_row (by decide) _))))).trans hk_s)) ⟨(Nat.le_of_ble_eq_true rfl), (Nat.le_of_ble_eq_true rfl), (Nat.le_of_ble_eq_true rfl), (Nat.le_of_ble_eq_true rfl)⟩ ?_
  show sh_cW _ _ (_, _, []) (sp_enq (sh_u2 (sh_u2 (sp_ko (sh_u2 K 2 t 0) t s) 9 t 1) 10 t 1) s t m l) (sh_u2 L 8 t (L 11 0)) _ _ _ _ _
  refine sh_cp (fun w Z k => sh_aload dc_Hall_acquire_149 rfl k) ?_
  refine sh_cp (fun w Z k => sh_aload_n dc_Hall_acquire_151 rfl rfl k) ?_
  refine sh_cget 0 4 dc_Hall_acquire_152 cw_o0 rfl (by decide) fl_Hall_35 rfl rfl rfl rfl ?_
  refine sh_ctd (show (sh_u2 L 8 t (L 11 0)) 11 0 = L 11 0 from (sh_u2_row (by decide) _)) ?_
  refine sh_cp (fun w Z k => sh_dload dc_Hall_acquire_155 rfl k) ?_
  refine sh_ccall (fun w hw => sh_virt (As := [.double (L 11 0), .double y]) dc_Hall_acquire_157 lm_Worker_setEnd ln_Hall_123 wd_619 wd_17 rfl rfl (Nat.le_of_ble_eq_true rfl) (hw _ _ (cw_ow (by omega))) rfl) (ct_Worker_setEnd_2 (t := t) (a := L 11 0) (b := y) (by omega) c5_157 v6_157) ⟨(Nat.le_of_ble_eq_true rfl), (Nat.le_of_ble_eq_true rfl), (Nat.le_of_ble_eq_true rfl), (Nat.le_of_ble_eq_true rfl)⟩ ?_
  show sh_cW _ _ (_, _, []) (sh_u2 (sp_enq (sh_u2 (sh_u2 (sp_ko (sh_u2 K 2 t 0) t s) 9 t 1) 10 t 1) s t m l) 26 t 1) (sh_u2 (sh_u2 L 8 t (L 11 0)) 7 t (FP.dadd (L 11 0) y)) _ _ _ _ _
  refine sh_cp (fun w Z k => sh_aload dc_Hall_acquire_160 rfl k) ?_
  refine sh_cget (10 + t) 3 dc_Hall_acquire_162 (cw_ow (by omega)) rfl (by decide) fl_Hall_127 rfl rfl rfl rfl ?_
  exact sh_ce (fun w => sh_ireturn dc_Hall_acquire_165 rfl rfl (by decide) (by decide))
theorem ct_Hall_acquire_Lock_9 {A : Nat → Nat} {K : sh_II} {L : sh_DD} {t : Nat} {s : Nat} {m : Int32} {y : UInt64} {l : List Nat} (ht : t < 6) (hs : s < 8) (hm : m = 0 ∨ m = 1) (hl1 : ¬ (Op.cmpValue (FP.dcmp y (FP.i2d (-1))) .l) < 0) (hl2 : (Op.cmpValue (FP.dcmp y (FP.i2d 1000)) .g) ≤ 0) (hp : (K 5 t) = -1) (ho : cw_okr K) (hr : cw_row K s l) (hlen : l.length < 6) (hk_s : cw_cl (K 12 s) = 4) (v0_43 : narrow .boolean (.int (K 2 t)) = .int (K 2 t)) (c1_46 : ¬ (K 2 t) = 0) : sh_cM A md_Hall_acquire [.ref (A 0), .int (nI t), .int (nI s), .int m, .double y] K L (.inl (some (.int 3))) (sh_u2 (sh_u2 (sh_u2 K 2 t 0) 4 t 3) 27 t 0) L := by
  refine sh_cp (fun w Z k => sh_aload_n dc_Hall_acquire_0 rfl rfl k) ?_
  refine sh_cp (fun w Z k => sh_iload_n dc_Hall_acquire_1 rfl rfl k) ?_
  refine sh_ccall (fun w hw => sh_virt (As := [.int (nI t)]) dc_Hall_acquire_2 lm_Hall_workerAt ln_Hall_62 wd_448 wd_3 rfl rfl (Nat.le_of_ble_eq_true rfl) (hw _ _ cw_o0) rfl) (ct_Hall_workerAt_1 (t := t) (by omega)) ⟨(Nat.le_of_ble_eq_true rfl), (Nat.le_of_ble_eq_true rfl), (Nat.le_of_ble_eq_true rfl), (Nat.le_of_ble_eq_true rfl)⟩ ?_
  show sh_cW _ _ (_, _, [.ref (A (10 + t))]) K L _ _ _ _ _
  refine sh_cp (fun w Z k => sh_astore dc_Hall_acquire_5 (by decide) k) ?_
  refine sh_cp (fun w Z k => sh_iload_n dc_Hall_acquire_7 rfl rfl k) ?_
  refine sh_cp (fun w Z k => sh_iconst (v := 0) dc_Hall_acquire_8 (by decide) k) ?_
  refine sh_cp (fun w Z k => sh_iconst (v := 1) dc_Hall_acquire_9 (by decide) k) ?_
  refine sh_ccall (fun w hw => sh_stat (As := [.int m, .int 0, .int 1]) dc_Hall_acquire_10 lm_Hall_checkNumber ln_Hall_39 wd_191 wd_49 rfl rfl (Nat.le_of_ble_eq_true rfl)) (ct_Hall_checkNumber_2 (x := m) (lo := 0) (hi := 1) (sp_m0 hm) (sp_m1 hm)) ⟨(Nat.le_of_ble_eq_true rfl), (Nat.le_of_ble_eq_true rfl), (Nat.le_of_ble_eq_true rfl), (Nat.le_of_ble_eq_true rfl)⟩ ?_
  show sh_cW _ _ (_, _, []) K L _ _ _ _ _
  refine sh_cp (fun w Z k => sh_dload dc_Hall_acquire_13 rfl k) ?_
  refine sh_cp (fun w Z k => sh_iconst (v := (-1)) dc_Hall_acquire_15 (by decide) k) ?_
  refine sh_cp (fun w Z k => sh_sipush (v := 1000) dc_Hall_acquire_16 (by decide) k) ?_
  refine sh_ccall (fun w hw => sh_stat (As := [.double y, .int (-1), .int 1000]) dc_Hall_acquire_19 lm_Hall_checkAmount ln_Hall_66 wd_451 wd_49 rfl rfl (Nat.le_of_ble_eq_true rfl)) (ct_Hall_checkAmount_2 (x := y) (lo := (-1)) (hi := 1000) hl1 hl2) ⟨(Nat.le_of_ble_eq_true rfl), (Nat.le_of_ble_eq_true rfl), (Nat.le_of_ble_eq_true rfl), (Nat.le_of_ble_eq_true rfl)⟩ ?_
  show sh_cW _ _ (_, _, []) K L _ _ _ _ _
  refine sh_cp (fun w Z k => sh_aload_n dc_Hall_acquire_22 rfl rfl k) ?_
  refine sh_cp (fun w Z k => sh_iload_n dc_Hall_acquire_23 rfl rfl k) ?_
  refine sh_ccall (fun w hw => sh_virt (As := [.int (nI s)]) dc_Hall_acquire_24 lm_Hall_syncAt ln_Hall_73 wd_272 wd_2 rfl rfl (Nat.le_of_ble_eq_true rfl) (hw _ _ cw_o0) rfl) (ct_Hall_syncAt_2 (s := s) (by omega) (cw_nz hk_s (by decide))) ⟨(Nat.le_of_ble_eq_true rfl), (Nat.le_of_ble_eq_true rfl), (Nat.le_of_ble_eq_true rfl), (Nat.le_of_ble_eq_true rfl)⟩ ?_
  show sh_cW _ _ (_, _, [.ref (A (20 + s))]) K L _ _ _ _ _
  refine sh_cp (fun w Z k => sh_astore dc_Hall_acquire_27 (by decide) k) ?_
  refine sh_cp (fun w Z k => sh_aload dc_Hall_acquire_29 rfl k) ?_
  refine sh_ccall (fun w hw => sh_stat (As := [.ref (A (10 + t))]) dc_Hall_acquire_31 lm_Hall_checkRunning ln_Hall_77 wd_463 wd_49 rfl rfl (Nat.le_of_ble_eq_true rfl)) (ct_Hall_checkRunning_1 (t := t) (by omega) hp) ⟨(Nat.le_of_ble_eq_true rfl), (Nat.le_of_ble_eq_true rfl), (Nat.le_of_ble_eq_true rfl), (Nat.le_of_ble_eq_true rfl)⟩ ?_
  show sh_cW _ _ (_, _, []) K L _ _ _ _ _
  refine sh_cp (fun w Z k => sh_aload dc_Hall_acquire_34 rfl k) ?_
  refine sh_ccall (fun w hw => sh_stat (As := [.ref (A (20 + s))]) dc_Hall_acquire_36 lm_Hall_gateOf ln_Hall_81 wd_471 wd_49 rfl rfl (Nat.le_of_ble_eq_true rfl)) (ct_Hall_gateOf_Lock_1 (s := s) (by omega) hk_s) ⟨(Nat.le_of_ble_eq_true rfl), (Nat.le_of_ble_eq_true rfl), (Nat.le_of_ble_eq_true rfl), (Nat.le_of_ble_eq_true rfl)⟩ ?_
  show sh_cW _ _ (_, _, [.ref (A (20 + s))]) K L _ _ _ _ _
  refine sh_cp (fun w Z k => sh_astore dc_Hall_acquire_39 (by decide) k) ?_
  refine sh_cp (fun w Z k => sh_aload dc_Hall_acquire_41 rfl k) ?_
  refine sh_ccall (fun w hw => sh_virt (As := []) dc_Hall_acquire_43 lm_Worker_dropFlag ln_Hall_85 wd_492 wd_5 rfl rfl (Nat.le_of_ble_eq_true rfl) (hw _ _ (cw_ow (by omega))) rfl) (ct_Worker_dropFlag_1 (t := t) (by omega) v0_43) ⟨(Nat.le_of_ble_eq_true rfl), (Nat.le_of_ble_eq_true rfl), (Nat.le_of_ble_eq_true rfl), (Nat.le_of_ble_eq_true rfl)⟩ ?_
  show sh_cW _ _ (_, _, [.int (K 2 t)]) (sh_u2 K 2 t 0) L _ _ _ _ _
  refine sh_cp (fun w Z k => sh_if_eq (tgt := 56) dc_Hall_acquire_46 (by decide) (fun z => absurd z c1_46) (fun _ => k)) ?_
  refine sh_cp (fun w Z k => sh_aload dc_Hall_acquire_49 rfl k) ?_
  refine sh_cp (fun w Z k => sh_iconst (v := 3) dc_Hall_acquire_51 (by decide) k) ?_
  refine sh_ccall (fun w hw => sh_virt (As := [.int 3]) dc_Hall_acquire_52 lm_Worker_finish ln_Hall_89 wd_496 wd_6 rfl rfl (Nat.le_of_ble_eq_true rfl) (hw _ _ (cw_ow (by omega))) rfl) (ct_Worker_finish_1 (t := t) (x := 3) (by omega)) ⟨(Nat.le_of_ble_eq_true rfl), (Nat.le_of_ble_eq_true rfl), (Nat.le_of_ble_eq_true rfl), (Nat.le_of_ble_eq_true rfl)⟩ ?_
  show sh_cW _ _ (_, _, [.int 3]) (sh_u2 (sh_u2 (sh_u2 K 2 t 0) 4 t 3) 27 t 0) L _ _ _ _ _
  exact sh_ce (fun w => sh_ireturn dc_Hall_acquire_55 rfl rfl (by decide) (by decide))
theorem ct_Hall_acquire_Semaphore_1 {A : Nat → Nat} {K : sh_II} {L : sh_DD} {t : Nat} {s : Nat} {m : Int32} {y : UInt64} {l : List Nat} (ht : t < 6) (hs : s < 8) (hm : m = 0 ∨ m = 1) (hl1 : ¬ (Op.cmpValue (FP.dcmp y (FP.i2d (-1))) .l) < 0) (hl2 : (Op.cmpValue (FP.dcmp y (FP.i2d 1000)) .g) ≤ 0) (hp : (K 5 t) = -1) (ho : cw_okr K) (hr : cw_row K s l) (hlen : l.length < 6) (hk_s : cw_cl (K 12 s) = 5) (v0_43 : narrow .boolean (.int (K 2 t)) = .int (K 2 t)) (c1_46 : (K 2 t) = 0) (c2_81 : (sp_b (sp_mq (sh_u2 K 2 t 0) t s m l)) = 0) (c3_92 : (sp_b (sp_can (sh_u2 K 2 t 0) t s m)) = 0) (c4_115 : (Op.cmpValue (FP.dcmp y FP.dconst0) .l) = 0) : sh_cM A md_Hall_acquire [.ref (A 0), .int (nI t), .int (nI s), .int m, .double y] K L (.inl (some (.int 2))) (sh_u2 (sh_u2 (sh_u2 K 2 t 0) 4 t 2) 27 t 0) L := by
  refine sh_cp (fun w Z k => sh_aload_n dc_Hall_acquire_0 rfl rfl k) ?_
  refine sh_cp (fun w Z k => sh_iload_n dc_Hall_acquire_1 rfl rfl k) ?_
  refine sh_ccall (fun w hw => sh_virt (As := [.int (nI t)]) dc_Hall_acquire_2 lm_Hall_workerAt ln_Hall_62 wd_448 wd_3 rfl rfl (Nat.le_of_ble_eq_true rfl) (hw _ _ cw_o0) rfl) (ct_Hall_workerAt_1 (t := t) (by omega)) ⟨(Nat.le_of_ble_eq_true rfl), (Nat.le_of_ble_eq_true rfl), (Nat.le_of_ble_eq_true rfl), (Nat.le_of_ble_eq_true rfl)⟩ ?_
  show sh_cW _ _ (_, _, [.ref (A (10 + t))]) K L _ _ _ _ _
  refine sh_cp (fun w Z k => sh_astore dc_Hall_acquire_5 (by decide) k) ?_
  refine sh_cp (fun w Z k => sh_iload_n dc_Hall_acquire_7 rfl rfl k) ?_
  refine sh_cp (fun w Z k => sh_iconst (v := 0) dc_Hall_acquire_8 (by decide) k) ?_
  refine sh_cp (fun w Z k => sh_iconst (v := 1) dc_Hall_acquire_9 (by decide) k) ?_
  refine sh_ccall (fun w hw => sh_stat (As := [.int m, .int 0, .int 1]) dc_Hall_acquire_10 lm_Hall_checkNumber ln_Hall_39 wd_191 wd_49 rfl rfl (Nat.le_of_ble_eq_true rfl)) (ct_Hall_checkNumber_2 (x := m) (lo := 0) (hi := 1) (sp_m0 hm) (sp_m1 hm)) ⟨(Nat.le_of_ble_eq_true rfl), (Nat.le_of_ble_eq_true rfl), (Nat.le_of_ble_eq_true rfl), (Nat.le_of_ble_eq_true rfl)⟩ ?_
  show sh_cW _ _ (_, _, []) K L _ _ _ _ _
  refine sh_cp (fun w Z k => sh_dload dc_Hall_acquire_13 rfl k) ?_
  refine sh_cp (fun w Z k => sh_iconst (v := (-1)) dc_Hall_acquire_15 (by decide) k) ?_
  refine sh_cp (fun w Z k => sh_sipush (v := 1000) dc_Hall_acquire_16 (by decide) k) ?_
  refine sh_ccall (fun w hw => sh_stat (As := [.double y, .int (-1), .int 1000]) dc_Hall_acquire_19 lm_Hall_checkAmount ln_Hall_66 wd_451 wd_49 rfl rfl (Nat.le_of_ble_eq_true rfl)) (ct_Hall_checkAmount_2 (x := y) (lo := (-1)) (hi := 1000) hl1 hl2) ⟨(Nat.le_of_ble_eq_true rfl), (Nat.le_of_ble_eq_true rfl), (Nat.le_of_ble_eq_true rfl), (Nat.le_of_ble_eq_true rfl)⟩ ?_
  show sh_cW _ _ (_, _, []) K L _ _ _ _ _
  refine sh_cp (fun w Z k => sh_aload_n dc_Hall_acquire_22 rfl rfl k) ?_
  refine sh_cp (fun w Z k => sh_iload_n dc_Hall_acquire_23 rfl rfl k) ?_
  refine sh_ccall (fun w hw => sh_virt (As := [.int (nI s)]) dc_Hall_acquire_24 lm_Hall_syncAt ln_Hall_73 wd_272 wd_2 rfl rfl (Nat.le_of_ble_eq_true rfl) (hw _ _ cw_o0) rfl) (ct_Hall_syncAt_2 (s := s) (by omega) (cw_nz hk_s (by decide))) ⟨(Nat.le_of_ble_eq_true rfl), (Nat.le_of_ble_eq_true rfl), (Nat.le_of_ble_eq_true rfl), (Nat.le_of_ble_eq_true rfl)⟩ ?_
  show sh_cW _ _ (_, _, [.ref (A (20 + s))]) K L _ _ _ _ _
  refine sh_cp (fun w Z k => sh_astore dc_Hall_acquire_27 (by decide) k) ?_
  refine sh_cp (fun w Z k => sh_aload dc_Hall_acquire_29 rfl k) ?_
  refine sh_ccall (fun w hw => sh_stat (As := [.ref (A (10 + t))]) dc_Hall_acquire_31 lm_Hall_checkRunning ln_Hall_77 wd_463 wd_49 rfl rfl (Nat.le_of_ble_eq_true rfl)) (ct_Hall_checkRunning_1 (t := t) (by omega) hp) ⟨(Nat.le_of_ble_eq_true rfl), (Nat.le_of_ble_eq_true rfl), (Nat.le_of_ble_eq_true rfl), (Nat.le_of_ble_eq_true rfl)⟩ ?_
  show sh_cW _ _ (_, _, []) K L _ _ _ _ _
  refine sh_cp (fun w Z k => sh_aload dc_Hall_acquire_34 rfl k) ?_
  refine sh_ccall (fun w hw => sh_stat (As := [.ref (A (20 + s))]) dc_Hall_acquire_36 lm_Hall_gateOf ln_Hall_81 wd_471 wd_49 rfl rfl (Nat.le_of_ble_eq_true rfl)) (ct_Hall_gateOf_Semaphore_1 (s := s) (by omega) hk_s) ⟨(Nat.le_of_ble_eq_true rfl), (Nat.le_of_ble_eq_true rfl), (Nat.le_of_ble_eq_true rfl), (Nat.le_of_ble_eq_true rfl)⟩ ?_
  show sh_cW _ _ (_, _, [.ref (A (20 + s))]) K L _ _ _ _ _
  refine sh_cp (fun w Z k => sh_astore dc_Hall_acquire_39 (by decide) k) ?_
  refine sh_cp (fun w Z k => sh_aload dc_Hall_acquire_41 rfl k) ?_
  refine sh_ccall (fun w hw => sh_virt (As := []) dc_Hall_acquire_43 lm_Worker_dropFlag ln_Hall_85 wd_492 wd_5 rfl rfl (Nat.le_of_ble_eq_true rfl) (hw _ _ (cw_ow (by omega))) rfl) (ct_Worker_dropFlag_1 (t := t) (by omega) v0_43) ⟨(Nat.le_of_ble_eq_true rfl), (Nat.le_of_ble_eq_true rfl), (Nat.le_of_ble_eq_true rfl), (Nat.le_of_ble_eq_true rfl)⟩ ?_
  show sh_cW _ _ (_, _, [.int (K 2 t)]) (sh_u2 K 2 t 0) L _ _ _ _ _
  refine sh_cp (fun w Z k => sh_if_eq (tgt := 56) dc_Hall_acquire_46 (by decide) (fun _ => k) (fun z => absurd c1_46 z)) ?_
  refine sh_cp (fun w Z k => sh_aload_n dc_Hall_acquire_56 rfl rfl k) ?_
  refine sh_cp (fun w Z k => sh_aload dc_Hall_acquire_57 rfl k) ?_
  refine sh_cp (fun w Z k => sh_aload dc_Hall_acquire_59 rfl k) ?_
  refine sh_cp (fun w Z k => sh_iload_n dc_Hall_acquire_61 rfl rfl k) ?_
  refine sh_ccall (fun w hw => sh_virt (As := [.ref (A (10 + t)), .ref (A (20 + s)), .int (nI s)]) dc_Hall_acquire_62 lm_Hall_keepOrder ln_Hall_92 wd_500 wd_7 rfl rfl (Nat.le_of_ble_eq_true rfl) (hw _ _ cw_o0) rfl) (cl_kon_Semaphore (t := t) (s := s) (by omega) (by omega) (cw_okr_up (by decide) ho) ((congrArg cw_cl (sh_u2_row (by decide) _)).trans hk_s)) ⟨(Nat.le_of_ble_eq_true rfl), (Nat.le_of_ble_eq_true rfl), (Nat.le_of_ble_eq_true rfl), (Nat.le_of_ble_eq_true rfl)⟩ ?_
  show sh_cW _ _ (_, _, []) (sh_u2 K 2 t 0) L _ _ _ _ _
  refine sh_cp (fun w Z k => sh_aload dc_Hall_acquire_65 rfl k) ?_
  refine sh_cp (fun w Z k => sh_aload dc_Hall_acquire_67 rfl k) ?_
  refine sh_cp (fun w Z k => sh_iload_n dc_Hall_acquire_69 rfl rfl k) ?_
  refine sh_ccall (fun w hw => sh_virtU (As := [.ref (A (10 + t)), .int m]) dc_Hall_acquire_70 lm_Gate_checkWish wd_528 wd_530 (Or.inr ⟨_, _, _, wd_529, wd_540⟩) ⟨by decide, by decide⟩ (by decide +kernel) wd_529 wd_533 rfl rfl (Nat.le_of_ble_eq_true rfl) (hw _ _ (cw_oe (by omega) ((congrArg cw_cl (sh_u2_row (by decide) _)).trans hk_s))) rfl) (ct_Gate_checkWish_Semaphore_1 (t := t) (s := s) (m := m) (by omega) (by omega) ((congrArg cw_cl (sh_u2_row (by decide) _)).trans hk_s)) ⟨(Nat.le_of_ble_eq_true rfl), (Nat.le_of_ble_eq_true rfl), (Nat.le_of_ble_eq_true rfl), (Nat.le_of_ble_eq_true rfl)⟩ ?_
  show sh_cW _ _ (_, _, []) (sh_u2 K 2 t 0) L _ _ _ _ _
  refine sh_cp (fun w Z k => sh_aload dc_Hall_acquire_73 rfl k) ?_
  refine sh_cp (fun w Z k => sh_aload dc_Hall_acquire_75 rfl k) ?_
  refine sh_cp (fun w Z k => sh_iload_n dc_Hall_acquire_77 rfl rfl k) ?_
  refine sh_ccall (fun w hw => sh_virtU (As := [.ref (A (10 + t)), .int m]) dc_Hall_acquire_78 lm_Semaphore_mustQueue wd_541 wd_543 (Or.inl wd_542) ⟨by decide, by decide⟩ (by decide +kernel) wd_559 wd_558 rfl rfl (Nat.le_of_ble_eq_true rfl) (hw _ _ (cw_oe (by omega) ((congrArg cw_cl (sh_u2_row (by decide) _)).trans hk_s))) rfl) (cl_mq_Semaphore (s := s) (t := t) (m := m) (l := l) (by omega) (by omega) (cw_okr_up (by decide) ho) (cw_row_up (by decide) hr) hm ((congrArg cw_cl (sh_u2_row (by decide) _)).trans hk_s)) ⟨(Nat.le_of_ble_eq_true rfl), (Nat.le_of_ble_eq_true rfl), (Nat.le_of_ble_eq_true rfl), (Nat.le_of_ble_eq_true rfl)⟩ ?_
  show sh_cW _ _ (_, _, [.int (sp_b (sp_mq (sh_u2 K 2 t 0) t s m l))]) (sh_u2 K 2 t 0) L _ _ _ _ _
  refine sh_cp (fun w Z k => sh_if_ne (tgt := 111) dc_Hall_acquire_81 (by decide) (fun z => absurd c2_81 z) (fun _ => k)) ?_
  refine sh_cp (fun w Z k => sh_aload dc_Hall_acquire_84 rfl k) ?_
  refine sh_cp (fun w Z k => sh_aload dc_Hall_acquire_86 rfl k) ?_
  refine sh_cp (fun w Z k => sh_iload_n dc_Hall_acquire_88 rfl rfl k) ?_
  refine sh_ccall (fun w hw => sh_virtU (As := [.ref (A (10 + t)), .int m]) dc_Hall_acquire_89 lm_Semaphore_canTake wd_570 wd_572 (Or.inl wd_571) ⟨by decide, by decide⟩ (by decide +kernel) wd_580 wd_579 rfl rfl (Nat.le_of_ble_eq_true rfl) (hw _ _ (cw_oe (by omega) ((congrArg cw_cl (sh_u2_row (by decide) _)).trans hk_s))) rfl) (cl_can_Semaphore (s := s) (t := t) (m := m) (by omega) (by omega) (cw_okr_up (by decide) ho) hm ((congrArg cw_cl (sh_u2_row (by decide) _)).trans hk_s)) ⟨(Nat.le_of_ble_eq_true rfl), (Nat.le_of_ble_eq_true rfl), (Nat.le_of_ble_eq_true rfl), (Nat.le_of_ble_eq_true rfl)⟩ ?_
  show sh_cW _ _ (_, _, [.int (sp_b (sp_can (sh_u2 K 2 t 0) t s m))]) (sh_u2 K 2 t 0) L _ _ _ _ _
  refine sh_cp (fun w Z k => sh_if_eq (tgt := 111) dc_Hall_acquire_92 (by decide) (fun _ => k) (fun z => absurd c3_92 z)) ?_
  refine sh_cp (fun w Z k => sh_dload dc_Hall_acquire_111 rfl k) ?_
  refine sh_cp (fun w Z k => sh_dconst0 dc_Hall_acquire_113 k) ?_
  refine sh_cp (fun w Z k => sh_dcmp dc_Hall_acquire_114 k) ?_
  refine sh_cp (fun w Z k => sh_if_ne (tgt := 125) dc_Hall_acquire_115 (by decide) (fun z => absurd c4_115 z) (fun _ => k)) ?_
  refine sh_cp (fun w Z k => sh_aload dc_Hall_acquire_118 rfl k) ?_
  refine sh_cp (fun w Z k => sh_iconst (v := 2) dc_Hall_acquire_120 (by decide) k) ?_
  refine sh_ccall (fun w hw => sh_virt (As := [.int 2]) dc_Hall_acquire_121 lm_Worker_finish ln_Hall_89 wd_496 wd_6 rfl rfl (Nat.le_of_ble_eq_true rfl) (hw _ _ (cw_ow (by omega))) rfl) (ct_Worker_finish_1 (t := t) (x := 2) (by omega)) ⟨(Nat.le_of_ble_eq_true rfl), (Nat.le_of_ble_eq_true rfl), (Nat.le_of_ble_eq_true rfl), (Nat.le_of_ble_eq_true rfl)⟩ ?_
  show sh_cW _ _ (_, _, [.int 2]) (sh_u2 (sh_u2 (sh_u2 K 2 t 0) 4 t 2) 27 t 0) L _ _ _ _ _
  exact sh_ce (fun w => sh_ireturn dc_Hall_acquire_124 rfl rfl (by decide) (by decide))
theorem ct_Hall_acquire_Semaphore_2 {A : Nat → Nat} {K : sh_II} {L : sh_DD} {t : Nat} {s : Nat} {m : Int32} {y : UInt64} {l : List Nat} (ht : t < 6) (hs : s < 8) (hm : m = 0 ∨ m = 1) (hl1 : ¬ (Op.cmpValue (FP.dcmp y (FP.i2d (-1))) .l) < 0) (hl2 : (Op.cmpValue (FP.dcmp y (FP.i2d 1000)) .g) ≤ 0) (hp : (K 5 t) = -1) (ho : cw_okr K) (hr : cw_row K s l) (hlen : l.length < 6) (hk_s : cw_cl (K 12 s) = 5) (v0_43 : narrow .boolean (.int (K 2 t)) = .int (K 2 t)) (c1_46 : (K 2 t) = 0) (c2_81 : (sp_b (sp_mq (sh_u2 K 2 t 0) t s m l)) = 0) (c3_92 : (sp_b (sp_can (sh_u2 K 2 t 0) t s m)) = 0) (c4_115 : ¬ (Op.cmpValue (FP.dcmp y FP.dconst0) .l) = 0) (c5_157 : (Op.cmpValue (FP.dcmp y FP.dconst0) .l) ≤ 0) : sh_cM A md_Hall_acquire [.ref (A 0), .int (nI t), .int (nI s), .int m, .double y] K L (.inl (some (.int ((sp_enq (sh_u2 (sh_u2 (sh_u2 K 2 t 0) 9 t 1) 10 t 1) s t m l) 4 t)))) (sp_enq (sh_u2 (sh_u2 (sh_u2 K 2 t 0) 9 t 1) 10 t 1) s t m l) (sh_u2 L 8 t (L 11 0)) := by
  refine sh_cp (fun w Z k => sh_aload_n dc_Hall_acquire_0 rfl rfl k) ?_
  refine sh_cp (fun w Z k => sh_iload_n dc_Hall_acquire_1 rfl rfl k) ?_
  refine sh_ccall (fun w hw => sh_virt (As := [.int (nI t)]) dc_Hall_acquire_2 lm_Hall_workerAt ln_Hall_62 wd_448 wd_3 rfl rfl (Nat.le_of_ble_eq_true rfl) (hw _ _ cw_o0) rfl) (ct_Hall_workerAt_1 (t := t) (by omega)) ⟨(Nat.le_of_ble_eq_true rfl), (Nat.le_of_ble_eq_true rfl), (Nat.le_of_ble_eq_true rfl), (Nat.le_of_ble_eq_true rfl)⟩ ?_
  show sh_cW _ _ (_, _, [.ref (A (10 + t))]) K L _ _ _ _ _
  refine sh_cp (fun w Z k => sh_astore dc_Hall_acquire_5 (by decide) k) ?_
  refine sh_cp (fun w Z k => sh_iload_n dc_Hall_acquire_7 rfl rfl k) ?_
  refine sh_cp (fun w Z k => sh_iconst (v := 0) dc_Hall_acquire_8 (by decide) k) ?_
  refine sh_cp (fun w Z k => sh_iconst (v := 1) dc_Hall_acquire_9 (by decide) k) ?_
  refine sh_ccall (fun w hw => sh_stat (As := [.int m, .int 0, .int 1]) dc_Hall_acquire_10 lm_Hall_checkNumber ln_Hall_39 wd_191 wd_49 rfl rfl (Nat.le_of_ble_eq_true rfl)) (ct_Hall_checkNumber_2 (x := m) (lo := 0) (hi := 1) (sp_m0 hm) (sp_m1 hm)) ⟨(Nat.le_of_ble_eq_true rfl), (Nat.le_of_ble_eq_true rfl), (Nat.le_of_ble_eq_true rfl), (Nat.le_of_ble_eq_true rfl)⟩ ?_
  show sh_cW _ _ (_, _, []) K L _ _ _ _ _
  refine sh_cp (fun w Z k => sh_dload dc_Hall_acquire_13 rfl k) ?_
  refine sh_cp (fun w Z k => sh_iconst (v := (-1)) dc_Hall_acquire_15 (by decide) k) ?_
  refine sh_cp (fun w Z k => sh_sipush (v := 1000) dc_Hall_acquire_16 (by decide) k) ?_
  refine sh_ccall (fun w hw => sh_stat (As := [.double y, .int (-1), .int 1000]) dc_Hall_acquire_19 lm_Hall_checkAmount ln_Hall_66 wd_451 wd_49 rfl rfl (Nat.le_of_ble_eq_true rfl)) (ct_Hall_checkAmount_2 (x := y) (lo := (-1)) (hi := 1000) hl1 hl2) ⟨(Nat.le_of_ble_eq_true rfl), (Nat.le_of_ble_eq_true rfl), (Nat.le_of_ble_eq_true rfl), (Nat.le_of_ble_eq_true rfl)⟩ ?_
  show sh_cW _ _ (_, _, []) K L _ _ _ _ _
  refine sh_cp (fun w Z k => sh_aload_n dc_Hall_acquire_22 rfl rfl k) ?_
  refine sh_cp (fun w Z k => sh_iload_n dc_Hall_acquire_23 rfl rfl k) ?_
  refine sh_ccall (fun w hw => sh_virt (As := [.int (nI s)]) dc_Hall_acquire_24 lm_Hall_syncAt ln_Hall_73 wd_272 wd_2 rfl rfl (Nat.le_of_ble_eq_true rfl) (hw _ _ cw_o0) rfl) (ct_Hall_syncAt_2 (s := s) (by omega) (cw_nz hk_s (by decide))) ⟨(Nat.le_of_ble_eq_true rfl), (Nat.le_of_ble_eq_true rfl), (Nat.le_of_ble_eq_true rfl), (Nat.le_of_ble_eq_true rfl)⟩ ?_
  show sh_cW _ _ (_, _, [.ref (A (20 + s))]) K L _ _ _ _ _
  refine sh_cp (fun w Z k => sh_astore dc_Hall_acquire_27 (by decide) k) ?_
  refine sh_cp (fun w Z k => sh_aload dc_Hall_acquire_29 rfl k) ?_
  refine sh_ccall (fun w hw => sh_stat (As := [.ref (A (10 + t))]) dc_Hall_acquire_31 lm_Hall_checkRunning ln_Hall_77 wd_463 wd_49 rfl rfl (Nat.le_of_ble_eq_true rfl)) (ct_Hall_checkRunning_1 (t := t) (by omega) hp) ⟨(Nat.le_of_ble_eq_true rfl), (Nat.le_of_ble_eq_true rfl), (Nat.le_of_ble_eq_true rfl), (Nat.le_of_ble_eq_true rfl)⟩ ?_
  show sh_cW _ _ (_, _, []) K L _ _ _ _ _
  refine sh_cp (fun w Z k => sh_aload dc_Hall_acquire_34 rfl k) ?_
  refine sh_ccall (fun w hw => sh_stat (As := [.ref (A (20 + s))]) dc_Hall_acquire_36 lm_Hall_gateOf ln_Hall_81 wd_471 wd_49 rfl rfl (Nat.le_of_ble_eq_true rfl)) (ct_Hall_gateOf_Semaphore_1 (s := s) (by omega) hk_s) ⟨(Nat.le_of_ble_eq_true rfl), (Nat.le_of_ble_eq_true rfl), (Nat.le_of_ble_eq_true rfl), (Nat.le_of_ble_eq_true rfl)⟩ ?_
  show sh_cW _ _ (_, _, [.ref (A (20 + s))]) K L _ _ _ _ _
  refine sh_cp (fun w Z k => sh_astore dc_Hall_acquire_39 (by decide) k) ?_
  refine sh_cp (fun w Z k => sh_aload dc_Hall_acquire_41 rfl k) ?_
  refine sh_ccall (fun w hw => sh_virt (As := []) dc_Hall_acquire_43 lm_Worker_dropFlag ln_Hall_85 wd_492 wd_5 rfl rfl (Nat.le_of_ble_eq_true rfl) (hw _ _ (cw_ow (by omega))) rfl) (ct_Worker_dropFlag_1 (t := t) (by omega) v0_43) ⟨(Nat.le_of_ble_eq_true rfl), (Nat.le_of_ble_eq_true rfl), (Nat.le_of_ble_eq_true rfl), (Nat.le_of_ble_eq_true rfl)⟩ ?_
  show sh_cW _ _ (_, _, [.int (K 2 t)]) (sh_u2 K 2 t 0) L _ _ _ _ _
  refine sh_cp (fun w Z k => sh_if_eq (tgt := 56) dc_Hall_acquire_46 (by decide) (fun _ => k) (fun z => absurd c1_46 z)) ?_
  refine sh_cp (fun w Z k => sh_aload_n dc_Hall_acquire_56 rfl rfl k) ?_
  refine sh_cp (fun w Z k => sh_aload dc_Hall_acquire_57 rfl k) ?_
  refine sh_cp (fun w Z k => sh_aload dc_Hall_acquire_59 rfl k) ?_
  refine sh_cp (fun w Z k => sh_iload_n dc_Hall_acquire_61 rfl rfl k) ?_
  refine sh_ccall (fun w hw => sh_virt (As := [.ref (A (10 + t)), .ref (A (20 + s)), .int (nI s)]) dc_Hall_acquire_62 lm_Hall_keepOrder ln_Hall_92 wd_500 wd_7 rfl rfl (Nat.le_of_ble_eq_true rfl) (hw _ _ cw_o0) rfl) (cl_kon_Semaphore (t := t) (s := s) (by omega) (by omega) (cw_okr_up (by decide) ho) ((congrArg cw_cl (sh_u2_row (by decide) _)).trans hk_s)) ⟨(Nat.le_of_ble_eq_true rfl), (Nat.le_of_ble_eq_true rfl), (Nat.le_of_ble_eq_true rfl), (Nat.le_of_ble_eq_true rfl)⟩ ?_
  show sh_cW _ _ (_, _, []) (sh_u2 K 2 t 0) L _ _ _ _ _
  refine sh_cp (fun w Z k => sh_aload dc_Hall_acquire_65 rfl k) ?_
  refine sh_cp (fun w Z k => sh_aload dc_Hall_acquire_67 rfl k) ?_
  refine sh_cp (fun w Z k => sh_iload_n dc_Hall_acquire_69 rfl rfl k) ?_
  refine sh_ccall (fun w hw => sh_virtU (As := [.ref (A (10 + t)), .int m]) dc_Hall_acquire_70 lm_Gate_checkWish wd_528 wd_530 (Or.inr ⟨_, _, _, wd_529, wd_540⟩) ⟨by decide, by decide⟩ (by decide +kernel) wd_529 wd_533 rfl rfl (Nat.le_of_ble_eq_true rfl) (hw _ _ (cw_oe (by omega) ((congrArg cw_cl (sh_u2_row (by decide) _)).trans hk_s))) rfl) (ct_Gate_checkWish_Semaphore_1 (t := t) (s := s) (m := m) (by omega) (by omega) ((congrArg cw_cl (sh_u2_row (by decide) _)).trans hk_s)) ⟨(Nat.le_of_ble_eq_true rfl), (Nat.le_of_ble_eq_true rfl), (Nat.le_of_ble_eq_true rfl), (Nat.le_of_ble_eq_true rfl)⟩ ?_
  show sh_cW _ _ (_, _, []) (sh_u2 K 2 t 0) L _ _ _ _ _
  refine sh_cp (fun w Z k => sh_aload dc_Hall_acquire_73 rfl k) ?_
  refine sh_cp (fun w Z k => sh_aload dc_Hall_acquire_75 rfl k) ?_
  refine sh_cp (fun w Z k => sh_iload_n dc_Hall_acquire_77 rfl rfl k) ?_
  refine sh_ccall (fun w hw => sh_virtU (As := [.ref (A (10 + t)), .int m]) dc_Hall_acquire_78 lm_Semaphore_mustQueue wd_541 wd_543 (Or.inl wd_542) ⟨by decide, by decide⟩ (by decide +kernel) wd_559 wd_558 rfl rfl (Nat.le_of_ble_eq_true rfl) (hw _ _ (cw_oe (by omega) ((congrArg cw_cl (sh_u2_row (by decide) _)).trans hk_s))) rfl) (cl_mq_Semaphore (s := s) (t := t) (m := m) (l := l) (by omega) (by omega) (cw_okr_up (by decide) ho) (cw_row_up (by decide) hr) hm ((congrArg cw_cl (sh_u2_row (by decide) _)).trans hk_s)) ⟨(Nat.le_of_ble_eq_true rfl), (Nat.le_of_ble_eq_true rfl), (Nat.le_of_ble_eq_true rfl), (Nat.le_of_ble_eq_true rfl)⟩ ?_
  show sh_cW _ _ (_, _, [.int (sp_b (sp_mq (sh_u2 K 2 t 0) t s m l))]) (sh_u2 K 2 t 0) L _ _ _ _ _
  refine sh_cp (fun w Z k => sh_if_ne (tgt := 111) dc_Hall_acquire_81 (by decide) (fun z => absurd c2_81 z) (fun _ => k)) ?_
  refine sh_cp (fun w Z k => sh_aload dc_Hall_acquire_84 rfl k) ?_
  refine sh_cp (fun w Z k => sh_aload dc_Hall_acquire_86 rfl k) ?_
  refine sh_cp (fun w Z k => sh_iload_n dc_Hall_acquire_88 rfl rfl k) ?_
  refine sh_ccall (fun w hw => sh_virtU (As := [.ref (A (10 + t)), .int m]) dc_Hall_acquire_89 lm_Semaphore_canTake wd_570 wd_572 (Or.inl wd_571) ⟨by decide, by decide⟩ (by decide +kernel) wd_580 wd_579 rfl rfl (Nat.le_of_ble_eq_true rfl) (hw _ _ (cw_oe (by omega) ((congrArg cw_cl (sh_u2_row (by decide) _)).trans hk_s))) rfl) (cl_can_Semaphore (s := s) (t := t) (m := m) (by omega) (by omega) (cw_okr_up (by decide) ho) hm ((congrArg cw_cl (sh_u2_row (by decide) _)).trans hk_s)) ⟨(Nat.le_of_ble_eq_true rfl), (Nat.le_of_ble_eq_true rfl), (Nat.le_of_ble_eq_true rfl), (Nat.le_of_ble_eq_true rfl)⟩ ?_
  show sh_cW _ _ (_, _, [.int (sp_b (sp_can (sh_u2 K 2 t 0) t s m))]) (sh_u2 K 2 t 0) L _ _ _ _ _
  refine sh_cp (fun w Z k => sh_if_eq (tgt := 111) dc_Hall_acquire_92 (by decide) (fun _ => k) (fun z => absurd c3_92 z)) ?_
  refine sh_cp (fun w Z k => sh_dload dc_Hall_acquire_111 rfl k) ?_
  refine sh_cp (fun w Z k => sh_dconst0 dc_Hall_acquire_113 k) ?_
  refine sh_cp (fun w Z k => sh_dcmp dc_Hall_acquire_114 k) ?_
  refine sh_cp (fun w Z k => sh_if_ne (tgt := 125) dc_Hall_acquire_115 (by decide) (fun _ => k) (fun z => absurd z c4_115)) ?_
  refine sh_cp (fun w Z k => sh_aload dc_Hall_acquire_125 rfl k) ?_
  refine sh_cp (fun w Z k => sh_iconst (v := 1) dc_Hall_acquire_127 (by decide) k) ?_
  refine sh_cput (K1 := (sh_u2 (sh_u2 K 2 t 0) 9 t 1)) (L1 := L) (10 + t) 9 dc_Hall_acquire_128 (cw_ow (by omega)) rfl (by decide) fl_Hall_113 rfl rfl rfl rfl pd_I rfl rfl (cq_Worker_9 (by omega)) (fun i hi => cw_upI (by decide) hi) ?_
  refine sh_cp (fun w Z k => sh_aload dc_Hall_acquire_131 rfl k) ?_
  refine sh_cp (fun w Z k => sh_iconst (v := 1) dc_Hall_acquire_133 (by decide) k) ?_
  refine sh_cput (K1 := (sh_u2 (sh_u2 (sh_u2 K 2 t 0) 9 t 1) 10 t 1)) (L1 := L) (10 + t) 10 dc_Hall_acquire_134 (cw_ow (by omega)) rfl (by decide) fl_Hall_116 rfl rfl rfl rfl pd_I rfl rfl (cq_Worker_10 (by omega)) (fun i hi => cw_upI (by decide) hi) ?_
  refine sh_cp (fun w Z k => sh_aload dc_Hall_acquire_137 rfl k) ?_
  refine sh_cp (fun w Z k => sh_aload dc_Hall_acquire_139 rfl k) ?_
  refine sh_cp (fun w Z k => sh_iload_n dc_Hall_acquire_141 rfl rfl k) ?_
  refine sh_cp (fun w Z k => sh_aload_n dc_Hall_acquire_142 rfl rfl k) ?_
  refine sh_cget 0 4 dc_Hall_acquire_143 cw_o0 rfl (by decide) fl_Hall_35 rfl rfl rfl rfl ?_
  refine sh_ccall (fun w hw => sh_virtU (As := [.ref (A (10 + t)), .int m, .double (L 11 0)]) dc_Hall_acquire_146 lm_Sync_enqueue wd_604 wd_605 (Or.inl wd_606) ⟨by decide, by decide⟩ (by decide +kernel) wd_611 wd_609 rfl rfl (Nat.le_of_ble_eq_true rfl) (hw _ _ (cw_oe (by omega) ((congrArg cw_cl (Eq.trans (sh_u2_row (by decide) _) (Eq.trans (sh_u2_row (by decide) _) (sh_u2_row (by decide) _)))).trans hk_s))) rfl) (cl_enq_Semaphore (s := s) (t := t) (m := m) (a := L 11 0) (l := l) (by omega) (by omega) (cw_row_up (by decide) (cw_row_up (by decide) (cw_row_up (by decide) hr))) hlen ((congrArg cw_cl (Eq.trans (sh_u2_row (by decide) _) (Eq.trans (sh_u2_row (by decide) _) (sh_u2_row (by decide) _)))).trans hk_s)) ⟨(Nat.le_of_ble_eq_true rfl), (Nat.le_of_ble_eq_true rfl), (Nat.le_of_ble_eq_true rfl), (Nat.le_of_ble_eq_true rfl)⟩ ?_
  show sh_cW _ _ (_, _, []) (sp_enq (sh_u2 (sh_u2 (sh_u2 K 2 t 0) 9 t 1) 10 t 1) s t m l) (sh_u2 L 8 t (L 11 0)) _ _ _ _ _
  refine sh_cp (fun w Z k => sh_aload dc_Hall_acquire_149 rfl k) ?_
  refine sh_cp (fun w Z k => sh_aload_n dc_Hall_acquire_151 rfl rfl k) ?_
  refine sh_cget 0 4 dc_Hall_acquire_152 cw_o0 rfl (by decide) fl_Hall_35 rfl rfl rfl rfl ?_
  refine sh_ctd (show (sh_u2 L 8 t (L 11 0)) 11 0 = L 11 0 from (sh_u2_row (by decide) _)) ?_
  refine sh_cp (fun w Z k => sh_dload dc_Hall_acquire_155 rfl k) ?_
  refine sh_ccall (fun w hw => sh_virt (As := [.double (L 11 0), .double y]) dc_Hall_acquire_157 lm_Worker_setEnd ln_Hall_123 wd_619 wd_17 rfl rfl (Nat.le_of_ble_eq_true rfl) (hw _ _ (cw_ow (by omega))) rfl) (ct_Worker_setEnd_1 (t := t) (a := L 11 0) (b := y) (by omega) c5_157) ⟨(Nat.le_of_ble_eq_true rfl), (Nat.le_of_ble_eq_true rfl), (Nat.le_of_ble_eq_true rfl), (Nat.le_of_ble_eq_true rfl)⟩ ?_
  show sh_cW _ _ (_, _, []) (sp_enq (sh_u2 (sh_u2 (sh_u2 K 2 t 0) 9 t 1) 10 t 1) s t m l) (sh_u2 L 8 t (L 11 0)) _ _ _ _ _
  refine sh_cp (fun w Z k => sh_aload dc_Hall_acquire_160 rfl k) ?_
  refine sh_cget (10 + t) 3 dc_Hall_acquire_162 (cw_ow (by omega)) rfl (by decide) fl_Hall_127 rfl rfl rfl rfl ?_
  exact sh_ce (fun w => sh_ireturn dc_Hall_acquire_165 rfl rfl (by decide) (by decide))
theorem ct_Hall_acquire_Semaphore_3 {A : Nat → Nat} {K : sh_II} {L : sh_DD} {t : Nat} {s : Nat} {m : Int32} {y : UInt64} {l : List Nat} (ht : t < 6) (hs : s < 8) (hm : m = 0 ∨ m = 1) (hl1 : ¬ (Op.cmpValue (FP.dcmp y (FP.i2d (-1))) .l) < 0) (hl2 : (Op.cmpValue (FP.dcmp y (FP.i2d 1000)) .g) ≤ 0) (hp : (K 5 t) = -1) (ho : cw_okr K) (hr : cw_row K s l) (hlen : l.length < 6) (hk_s : cw_cl (K 12 s) = 5) (v0_43 : narrow .boolean (.int (K 2 t)) = .int (K 2 t)) (c1_46 : (K 2 t) = 0) (c2_81 : (sp_b (sp_mq (sh_u2 K 2 t 0) t s m l)) = 0) (c3_92 : (sp_b (sp_can (sh_u2 K 2 t 0) t s m)) = 0) (c4_115 : ¬ (Op.cmpValue (FP.dcmp y FP.dconst0) .l) = 0) (c5_157 : ¬ (Op.cmpValue (FP.dcmp y FP.dconst0) .l) ≤ 0) (v6_157 : vf_n64 (FP.dadd (L 11 0) y)) : sh_cM A md_Hall_acquire [.ref (A 0), .int (nI t), .int (nI s), .int m, .double y] K L (.inl (some (.int ((sh_u2 (sp_enq (sh_u2 (sh_u2 (sh_u2 K 2 t 0) 9 t 1) 10 t 1) s t m l) 26 t 1) 4 t)))) (sh_u2 (sp_enq (sh_u2 (sh_u2 (sh_u2 K 2 t 0) 9 t 1) 10 t 1) s t m l) 26 t 1) (sh_u2 (sh_u2 L 8 t (L 11 0)) 7 t (FP.dadd (L 11 0) y)) := by
  refine sh_cp (fun w Z k => sh_aload_n dc_Hall_acquire_0 rfl rfl k) ?_
  refine sh_cp (fun w Z k => sh_iload_n dc_Hall_acquire_1 rfl rfl k) ?_
  refine sh_ccall (fun w hw => sh_virt (As := [.int (nI t)]) dc_Hall_acquire_2 lm_Hall_workerAt ln_Hall_62 wd_448 wd_3 rfl rfl (Nat.le_of_ble_eq_true rfl) (hw _ _ cw_o0) rfl) (ct_Hall_workerAt_1 (t := t) (by omega)) ⟨(Nat.le_of_ble_eq_true rfl), (Nat.le_of_ble_eq_true rfl), (Nat.le_of_ble_eq_true rfl), (Nat.le_of_ble_eq_true rfl)⟩ ?_
  show sh_cW _ _ (_, _, [.ref (A (10 + t))]) K L _ _ _ _ _
  refine sh_cp (fun w Z k => sh_astore dc_Hall_acquire_5 (by decide) k) ?_
  refine sh_cp (fun w Z k => sh_iload_n dc_Hall_acquire_7 rfl rfl k) ?_
  refine sh_cp (fun w Z k => sh_iconst (v := 0) dc_Hall_acquire_8 (by decide) k) ?_
  refine sh_cp (fun w Z k => sh_iconst (v := 1) dc_Hall_acquire_9 (by decide) k) ?_
  refine sh_ccall (fun w hw => sh_stat (As := [.int m, .int 0, .int 1]) dc_Hall_acquire_10 lm_Hall_checkNumber ln_Hall_39 wd_191 wd_49 rfl rfl (Nat.le_of_ble_eq_true rfl)) (ct_Hall_checkNumber_2 (x := m) (lo := 0) (hi := 1) (sp_m0 hm) (sp_m1 hm)) ⟨(Nat.le_of_ble_eq_true rfl), (Nat.le_of_ble_eq_true rfl), (Nat.le_of_ble_eq_true rfl), (Nat.le_of_ble_eq_true rfl)⟩ ?_
  show sh_cW _ _ (_, _, []) K L _ _ _ _ _
  refine sh_cp (fun w Z k => sh_dload dc_Hall_acquire_13 rfl k) ?_
  refine sh_cp (fun w Z k => sh_iconst (v := (-1)) dc_Hall_acquire_15 (by decide) k) ?_
  refine sh_cp (fun w Z k => sh_sipush (v := 1000) dc_Hall_acquire_16 (by decide) k) ?_
  refine sh_ccall (fun w hw => sh_stat (As := [.double y, .int (-1), .int 1000]) dc_Hall_acquire_19 lm_Hall_checkAmount ln_Hall_66 wd_451 wd_49 rfl rfl (Nat.le_of_ble_eq_true rfl)) (ct_Hall_checkAmount_2 (x := y) (lo := (-1)) (hi := 1000) hl1 hl2) ⟨(Nat.le_of_ble_eq_true rfl), (Nat.le_of_ble_eq_true rfl), (Nat.le_of_ble_eq_true rfl), (Nat.le_of_ble_eq_true rfl)⟩ ?_
  show sh_cW _ _ (_, _, []) K L _ _ _ _ _
  refine sh_cp (fun w Z k => sh_aload_n dc_Hall_acquire_22 rfl rfl k) ?_
  refine sh_cp (fun w Z k => sh_iload_n dc_Hall_acquire_23 rfl rfl k) ?_
  refine sh_ccall (fun w hw => sh_virt (As := [.int (nI s)]) dc_Hall_acquire_24 lm_Hall_syncAt ln_Hall_73 wd_272 wd_2 rfl rfl (Nat.le_of_ble_eq_true rfl) (hw _ _ cw_o0) rfl) (ct_Hall_syncAt_2 (s := s) (by omega) (cw_nz hk_s (by decide))) ⟨(Nat.le_of_ble_eq_true rfl), (Nat.le_of_ble_eq_true rfl), (Nat.le_of_ble_eq_true rfl), (Nat.le_of_ble_eq_true rfl)⟩ ?_
  show sh_cW _ _ (_, _, [.ref (A (20 + s))]) K L _ _ _ _ _
  refine sh_cp (fun w Z k => sh_astore dc_Hall_acquire_27 (by decide) k) ?_
  refine sh_cp (fun w Z k => sh_aload dc_Hall_acquire_29 rfl k) ?_
  refine sh_ccall (fun w hw => sh_stat (As := [.ref (A (10 + t))]) dc_Hall_acquire_31 lm_Hall_checkRunning ln_Hall_77 wd_463 wd_49 rfl rfl (Nat.le_of_ble_eq_true rfl)) (ct_Hall_checkRunning_1 (t := t) (by omega) hp) ⟨(Nat.le_of_ble_eq_true rfl), (Nat.le_of_ble_eq_true rfl), (Nat.le_of_ble_eq_true rfl), (Nat.le_of_ble_eq_true rfl)⟩ ?_
  show sh_cW _ _ (_, _, []) K L _ _ _ _ _
  refine sh_cp (fun w Z k => sh_aload dc_Hall_acquire_34 rfl k) ?_
  refine sh_ccall (fun w hw => sh_stat (As := [.ref (A (20 + s))]) dc_Hall_acquire_36 lm_Hall_gateOf ln_Hall_81 wd_471 wd_49 rfl rfl (Nat.le_of_ble_eq_true rfl)) (ct_Hall_gateOf_Semaphore_1 (s := s) (by omega) hk_s) ⟨(Nat.le_of_ble_eq_true rfl), (Nat.le_of_ble_eq_true rfl), (Nat.le_of_ble_eq_true rfl), (Nat.le_of_ble_eq_true rfl)⟩ ?_
  show sh_cW _ _ (_, _, [.ref (A (20 + s))]) K L _ _ _ _ _
  refine sh_cp (fun w Z k => sh_astore dc_Hall_acquire_39 (by decide) k) ?_
  refine sh_cp (fun w Z k => sh_aload dc_Hall_acquire_41 rfl k) ?_
  refine sh_ccall (fun w hw => sh_virt (As := []) dc_Hall_acquire_43 lm_Worker_dropFlag ln_Hall_85 wd_492 wd_5 rfl rfl (Nat.le_of_ble_eq_true rfl) (hw _ _ (cw_ow (by omega))) rfl) (ct_Worker_dropFlag_1 (t := t) (by omega) v0_43) ⟨(Nat.le_of_ble_eq_true rfl), (Nat.le_of_ble_eq_true rfl), (Nat.le_of_ble_eq_true rfl), (Nat.le_of_ble_eq_true rfl)⟩ ?_
  show sh_cW _ _ (_, _, [.int (K 2 t)]) (sh_u2 K 2 t 0) L _ _ _ _ _
  refine sh_cp (fun w Z k => sh_if_eq (tgt := 56) dc_Hall_acquire_46 (by decide) (fun _ => k) (fun z => absurd c1_46 z)) ?_
  refine sh_cp (fun w Z k => sh_aload_n dc_Hall_acquire_56 rfl rfl k) ?_
  refine sh_cp (fun w Z k => sh_aload dc_Hall_acquire_57 rfl k) ?_
  refine sh_cp (fun w Z k => sh_aload dc_Hall_acquire_59 rfl k) ?_
  refine sh_cp (fun w Z k => sh_iload_n dc_Hall_acquire_61 rfl rfl k) ?_
  refine sh_ccall (fun w hw => sh_virt (As := [.ref (A (10 + t)), .ref (A (20 + s)), .int (nI s)]) dc_Hall_acquire_62 lm_Hall_keepOrder ln_Hall_92 wd_500 wd_7 rfl rfl (Nat.le_of_ble_eq_true rfl) (hw _ _ cw_o0) rfl) (cl_kon_Semaphore (t := t) (s := s) (by omega) (by omega) (cw_okr_up (by decide) ho) ((congrArg cw_cl (sh_u2_row (by decide) _)).trans hk_s)) ⟨(Nat.le_of_ble_eq_true rfl), (Nat.le_of_ble_eq_true rfl), (Nat.le_of_ble_eq_true rfl), (Nat.le_of_ble_eq_true rfl)⟩ ?_
  show sh_cW _ _ (_, _, []) (sh_u2 K 2 t 0) L _ _ _ _ _
  refine sh_cp (fun w Z k => sh_aload dc_Hall_acquire_65 rfl k) ?_
  refine sh_cp (fun w Z k => sh_aload dc_Hall_acquire_67 rfl k) ?_
  refine sh_cp (fun w Z k => sh_iload_n dc_Hall_acquire_69 rfl rfl k) ?_
  refine sh_ccall (fun w hw => sh_virtU (As := [.ref (A (10 + t)), .int m]) dc_Hall_acquire_70 lm_Gate_checkWish wd_528 wd_530 (Or.inr ⟨_, _, _, wd_529, wd_540⟩) ⟨by decide, by decide⟩ (by decide +kernel) wd_529 wd_533 rfl rfl (Nat.le_of_ble_eq_true rfl) (hw _ _ (cw_oe (by omega) ((congrArg cw_cl (sh_u2_row (by decide) _)).trans hk_s))) rfl) (ct_Gate_checkWish_Semaphore_1 (t := t) (s := s) (m := m) (by omega) (by omega) ((congrArg cw_cl (sh_u2_row (by decide) _)).trans hk_s)) ⟨(Nat.le_of_ble_eq_true rfl), (Nat.le_of_ble_eq_true rfl), (Nat.le_of_ble_eq_true rfl), (Nat.le_of_ble_eq_true rfl)⟩ ?_
  show sh_cW _ _ (_, _, []) (sh_u2 K 2 t 0) L _ _ _ _ _
  refine sh_cp (fun w Z k => sh_aload dc_Hall_acquire_73 rfl k) ?_
  refine sh_cp (fun w Z k => sh_aload dc_Hall_acquire_75 rfl k) ?_
  refine sh_cp (fun w Z k => sh_iload_n dc_Hall_acquire_77 rfl rfl k) ?_
  refine sh_ccall (fun w hw => sh_virtU (As := [.ref (A (10 + t)), .int m]) dc_Hall_acquire_78 lm_Semaphore_mustQueue wd_541 wd_543 (Or.inl wd_542) ⟨by decide, by decide⟩ (by decide +kernel) wd_559 wd_558 rfl rfl (Nat.le_of_ble_eq_true rfl) (hw _ _ (cw_oe (by omega) ((congrArg cw_cl (sh_u2_row (by decide) _)).trans hk_s))) rfl) (cl_mq_Semaphore (s := s) (t := t) (m := m) (l := l) (by omega) (by omega) (cw_okr_up (by decide) ho) (cw_row_up (by decide) hr) hm ((congrArg cw_cl (sh_u2_row (by decide) _)).trans hk_s)) ⟨(Nat.le_of_ble_eq_true rfl), (Nat.le_of_ble_eq_true rfl), (Nat.le_of_ble_eq_true rfl), (Nat.le_of_ble_eq_true rfl)⟩ ?_
  show sh_cW _ _ (_, _, [.int (sp_b (sp_mq (sh_u2 K 2 t 0) t s m l))]) (sh_u2 K 2 t 0) L _ _ _ _ _
  refine sh_cp (fun w Z k => sh_if_ne (tgt := 111) dc_Hall_acquire_81 (by decide) (fun z => absurd c2_81 z) (fun _ => k)) ?_
  refine sh_cp (fun w Z k => sh_aload dc_Hall_acquire_84 rfl k) ?_
  refine sh_cp (fun w Z k => sh_aload dc_Hall_acquire_86 rfl k) ?_
  refine sh_cp (fun w Z k => sh_iload_n dc_Hall_acquire_88 rfl rfl k) ?_
  refine sh_ccall (fun w hw => sh_virtU (As := [.ref (A (10 + t)), .int m]) dc_Hall_acquire_89 lm_Semaphore_canTake wd_570 wd_572 (Or.inl wd_571) ⟨by decide, by decide⟩ (by decide +kernel) wd_580 wd_579 rfl rfl (Nat.le_of_ble_eq_true rfl) (hw _ _ (cw_oe (by omega) ((congrArg cw_cl (sh_u2_row (by decide) _)).trans hk_s))) rfl) (cl_can_Semaphore (s := s) (t := t) (m := m) (by omega) (by omega) (cw_okr_up (by decide) ho) hm ((congrArg cw_cl (sh_u2_row (by decide) _)).trans hk_s)) ⟨(Nat.le_of_ble_eq_true rfl), (Nat.le_of_ble_eq_true rfl), (Nat.le_of_ble_eq_true rfl), (Nat.le_of_ble_eq_true rfl)⟩ ?_
  show sh_cW _ _ (_, _, [.int (sp_b (sp_can (sh_u2 K 2 t 0) t s m))]) (sh_u2 K 2 t 0) L _ _ _ _ _
  refine sh_cp (fun w Z k => sh_if_eq (tgt := 111) dc_Hall_acquire_92 (by decide) (fun _ => k) (fun z => absurd c3_92 z)) ?_
  refine sh_cp (fun w Z k => sh_dload dc_Hall_acquire_111 rfl k) ?_
  refine sh_cp (fun w Z k => sh_dconst0 dc_Hall_acquire_113 k) ?_
  refine sh_cp (fun w Z k => sh_dcmp dc_Hall_acquire_114 k) ?_
  refine sh_cp (fun w Z k => sh_if_ne (tgt := 125) dc_Hall_acquire_115 (by decide) (fun _ => k) (fun z => absurd z c4_115)) ?_
  refine sh_cp (fun w Z k => sh_aload dc_Hall_acquire_125 rfl k) ?_
  refine sh_cp (fun w Z k => sh_iconst (v := 1) dc_Hall_acquire_127 (by decide) k) ?_
  refine sh_cput (K1 := (sh_u2 (sh_u2 K 2 t 0) 9 t 1)) (L1 := L) (10 + t) 9 dc_Hall_acquire_128 (cw_ow (by omega)) rfl (by decide) fl_Hall_113 rfl rfl rfl rfl pd_I rfl rfl (cq_Worker_9 (by omega)) (fun i hi => cw_upI (by decide) hi) ?_
  refine sh_cp (fun w Z k => sh_aload dc_Hall_acquire_131 rfl k) ?_
  refine sh_cp (fun w Z k => sh_iconst (v := 1) dc_Hall_acquire_133 (by decide) k) ?_
  refine sh_cput (K1 := (sh_u2 (sh_u2 (sh_u2 K 2 t 0) 9 t 1) 10 t 1)) (L1 := L) (10 + t) 10 dc_Hall_acquire_134 (cw_ow (by omega)) rfl (by decide) fl_Hall_116 rfl rfl rfl rfl pd_I rfl rfl (cq_Worker_10 (by omega)) (fun i hi => cw_upI (by decide) hi) ?_
  refine sh_cp (fun w Z k => sh_aload dc_Hall_acquire_137 rfl k) ?_
  refine sh_cp (fun w Z k => sh_aload dc_Hall_acquire_139 rfl k) ?_
  refine sh_cp (fun w Z k => sh_iload_n dc_Hall_acquire_141 rfl rfl k) ?_
  refine sh_cp (fun w Z k => sh_aload_n dc_Hall_acquire_142 rfl rfl k) ?_
  refine sh_cget 0 4 dc_Hall_acquire_143 cw_o0 rfl (by decide) fl_Hall_35 rfl rfl rfl rfl ?_
  refine sh_ccall (fun w hw => sh_virtU (As := [.ref (A (10 + t)), .int m, .double (L 11 0)]) dc_Hall_acquire_146 lm_Sync_enqueue wd_604 wd_605 (Or.inl wd_606) ⟨by decide, by decide⟩ (by decide +kernel) wd_611 wd_609 rfl rfl (Nat.le_of_ble_eq_true rfl) (hw _ _ (cw_oe (by omega) ((congrArg cw_cl (Eq.trans (sh_u2_row (by decide) _) (Eq.trans (sh_u2_row (by decide) _) (sh_u2_row (by decide) _)))).trans hk_s))) rfl) (cl_enq_Semaphore (s := s) (t := t) (m := m) (a := L 11 0) (l := l) (by omega) (by omega) (cw_row_up (by decide) (cw_row_up (by decide) (cw_row_up (by decide) hr))) hlen ((congrArg cw_cl (Eq.trans (sh_u2_row (by decide) _) (Eq.trans (sh_u2_row (by decide) _) (sh_u2_row (by decide) _)))).trans hk_s)) ⟨(Nat.le_of_ble_eq_true rfl), (Nat.le_of_ble_eq_true rfl), (Nat.le_of_ble_eq_true rfl), (Nat.le_of_ble_eq_true rfl)⟩ ?_
  show sh_cW _ _ (_, _, []) (sp_enq (sh_u2 (sh_u2 (sh_u2 K 2 t 0) 9 t 1) 10 t 1) s t m l) (sh_u2 L 8 t (L 11 0)) _ _ _ _ _
  refine sh_cp (fun w Z k => sh_aload dc_Hall_acquire_149 rfl k) ?_
  refine sh_cp (fun w Z k => sh_aload_n dc_Hall_acquire_151 rfl rfl k) ?_
  refine sh_cget 0 4 dc_Hall_acquire_152 cw_o0 rfl (by decide) fl_Hall_35 rfl rfl rfl rfl ?_
  refine sh_ctd (show (sh_u2 L 8 t (L 11 0)) 11 0 = L 11 0 from (sh_u2_row (by decide) _)) ?_
  refine sh_cp (fun w Z k => sh_dload dc_Hall_acquire_155 rfl k) ?_
  refine sh_ccall (fun w hw => sh_virt (As := [.double (L 11 0), .double y]) dc_Hall_acquire_157 lm_Worker_setEnd ln_Hall_123 wd_619 wd_17 rfl rfl (Nat.le_of_ble_eq_true rfl) (hw _ _ (cw_ow (by omega))) rfl) (ct_Worker_setEnd_2 (t := t) (a := L 11 0) (b := y) (by omega) c5_157 v6_157) ⟨(Nat.le_of_ble_eq_true rfl), (Nat.le_of_ble_eq_true rfl), (Nat.le_of_ble_eq_true rfl), (Nat.le_of_ble_eq_true rfl)⟩ ?_
  show sh_cW _ _ (_, _, []) (sh_u2 (sp_enq (sh_u2 (sh_u2 (sh_u2 K 2 t 0) 9 t 1) 10 t 1) s t m l) 26 t 1) (sh_u2 (sh_u2 L 8 t (L 11 0)) 7 t (FP.dadd (L 11 0) y)) _ _ _ _ _
  refine sh_cp (fun w Z k => sh_aload dc_Hall_acquire_160 rfl k) ?_
  refine sh_cget (10 + t) 3 dc_Hall_acquire_162 (cw_ow (by omega)) rfl (by decide) fl_Hall_127 rfl rfl rfl rfl ?_
  exact sh_ce (fun w => sh_ireturn dc_Hall_acquire_165 rfl rfl (by decide) (by decide))
theorem ct_Hall_acquire_Semaphore_4 {A : Nat → Nat} {K : sh_II} {L : sh_DD} {t : Nat} {s : Nat} {m : Int32} {y : UInt64} {l : List Nat} (ht : t < 6) (hs : s < 8) (hm : m = 0 ∨ m = 1) (hl1 : ¬ (Op.cmpValue (FP.dcmp y (FP.i2d (-1))) .l) < 0) (hl2 : (Op.cmpValue (FP.dcmp y (FP.i2d 1000)) .g) ≤ 0) (hp : (K 5 t) = -1) (ho : cw_okr K) (hr : cw_row K s l) (hlen : l.length < 6) (hk_s : cw_cl (K 12 s) = 5) (v0_43 : narrow .boolean (.int (K 2 t)) = .int (K 2 t)) (c1_46 : (K 2 t) = 0) (c2_81 : (sp_b (sp_mq (sh_u2 K 2 t 0) t s m l)) = 0) (c3_92 : ¬ (sp_b (sp_can (sh_u2 K 2 t 0) t s m)) = 0) : sh_cM A md_Hall_acquire [.ref (A 0), .int (nI t), .int (nI s), .int m, .double y] K L (.inl (some (.int 1))) (sh_u2 (sh_u2 (sp_tk (sh_u2 K 2 t 0) t s m 1) 4 t 1) 27 t 0) L := by
  refine sh_cp (fun w Z k => sh_aload_n dc_Hall_acquire_0 rfl rfl k) ?_
  refine sh_cp (fun w Z k => sh_iload_n dc_Hall_acquire_1 rfl rfl k) ?_
  refine sh_ccall (fun w hw => sh_virt (As := [.int (nI t)]) dc_Hall_acquire_2 lm_Hall_workerAt ln_Hall_62 wd_448 wd_3 rfl rfl (Nat.le_of_ble_eq_true rfl) (hw _ _ cw_o0) rfl) (ct_Hall_workerAt_1 (t := t) (by omega)) ⟨(Nat.le_of_ble_eq_true rfl), (Nat.le_of_ble_eq_true rfl), (Nat.le_of_ble_eq_true rfl), (Nat.le_of_ble_eq_true rfl)⟩ ?_
  show sh_cW _ _ (_, _, [.ref (A (10 + t))]) K L _ _ _ _ _
  refine sh_cp (fun w Z k => sh_astore dc_Hall_acquire_5 (by decide) k) ?_
  refine sh_cp (fun w Z k => sh_iload_n dc_Hall_acquire_7 rfl rfl k) ?_
  refine sh_cp (fun w Z k => sh_iconst (v := 0) dc_Hall_acquire_8 (by decide) k) ?_
  refine sh_cp (fun w Z k => sh_iconst (v := 1) dc_Hall_acquire_9 (by decide) k) ?_
  refine sh_ccall (fun w hw => sh_stat (As := [.int m, .int 0, .int 1]) dc_Hall_acquire_10 lm_Hall_checkNumber ln_Hall_39 wd_191 wd_49 rfl rfl (Nat.le_of_ble_eq_true rfl)) (ct_Hall_checkNumber_2 (x := m) (lo := 0) (hi := 1) (sp_m0 hm) (sp_m1 hm)) ⟨(Nat.le_of_ble_eq_true rfl), (Nat.le_of_ble_eq_true rfl), (Nat.le_of_ble_eq_true rfl), (Nat.le_of_ble_eq_true rfl)⟩ ?_
  show sh_cW _ _ (_, _, []) K L _ _ _ _ _
  refine sh_cp (fun w Z k => sh_dload dc_Hall_acquire_13 rfl k) ?_
  refine sh_cp (fun w Z k => sh_iconst (v := (-1)) dc_Hall_acquire_15 (by decide) k) ?_
  refine sh_cp (fun w Z k => sh_sipush (v := 1000) dc_Hall_acquire_16 (by decide) k) ?_
  refine sh_ccall (fun w hw => sh_stat (As := [.double y, .int (-1), .int 1000]) dc_Hall_acquire_19 lm_Hall_checkAmount ln_Hall_66 wd_451 wd_49 rfl rfl (Nat.le_of_ble_eq_true rfl)) (ct_Hall_checkAmount_2 (x := y) (lo := (-1)) (hi := 1000) hl1 hl2) ⟨(Nat.le_of_ble_eq_true rfl), (Nat.le_of_ble_eq_true rfl), (Nat.le_of_ble_eq_true rfl), (Nat.le_of_ble_eq_true rfl)⟩ ?_
  show sh_cW _ _ (_, _, []) K L _ _ _ _ _
  refine sh_cp (fun w Z k => sh_aload_n dc_Hall_acquire_22 rfl rfl k) ?_
  refine sh_cp (fun w Z k => sh_iload_n dc_Hall_acquire_23 rfl rfl k) ?_
  refine sh_ccall (fun w hw => sh_virt (As := [.int (nI s)]) dc_Hall_acquire_24 lm_Hall_syncAt ln_Hall_73 wd_272 wd_2 rfl rfl (Nat.le_of_ble_eq_true rfl) (hw _ _ cw_o0) rfl) (ct_Hall_syncAt_2 (s := s) (by omega) (cw_nz hk_s (by decide))) ⟨(Nat.le_of_ble_eq_true rfl), (Nat.le_of_ble_eq_true rfl), (Nat.le_of_ble_eq_true rfl), (Nat.le_of_ble_eq_true rfl)⟩ ?_
  show sh_cW _ _ (_, _, [.ref (A (20 + s))]) K L _ _ _ _ _
  refine sh_cp (fun w Z k => sh_astore dc_Hall_acquire_27 (by decide) k) ?_
  refine sh_cp (fun w Z k => sh_aload dc_Hall_acquire_29 rfl k) ?_
  refine sh_ccall (fun w hw => sh_stat (As := [.ref (A (10 + t))]) dc_Hall_acquire_31 lm_Hall_checkRunning ln_Hall_77 wd_463 wd_49 rfl rfl (Nat.le_of_ble_eq_true rfl)) (ct_Hall_checkRunning_1 (t := t) (by omega) hp) ⟨(Nat.le_of_ble_eq_true rfl), (Nat.le_of_ble_eq_true rfl), (Nat.le_of_ble_eq_true rfl), (Nat.le_of_ble_eq_true rfl)⟩ ?_
  show sh_cW _ _ (_, _, []) K L _ _ _ _ _
  refine sh_cp (fun w Z k => sh_aload dc_Hall_acquire_34 rfl k) ?_
  refine sh_ccall (fun w hw => sh_stat (As := [.ref (A (20 + s))]) dc_Hall_acquire_36 lm_Hall_gateOf ln_Hall_81 wd_471 wd_49 rfl rfl (Nat.le_of_ble_eq_true rfl)) (ct_Hall_gateOf_Semaphore_1 (s := s) (by omega) hk_s) ⟨(Nat.le_of_ble_eq_true rfl), (Nat.le_of_ble_eq_true rfl), (Nat.le_of_ble_eq_true rfl), (Nat.le_of_ble_eq_true rfl)⟩ ?_
  show sh_cW _ _ (_, _, [.ref (A (20 + s))]) K L _ _ _ _ _
  refine sh_cp (fun w Z k => sh_astore dc_Hall_acquire_39 (by decide) k) ?_
  refine sh_cp (fun w Z k => sh_aload dc_Hall_acquire_41 rfl k) ?_
  refine sh_ccall (fun w hw => sh_virt (As := []) dc_Hall_acquire_43 lm_Worker_dropFlag ln_Hall_85 wd_492 wd_5 rfl rfl (Nat.le_of_ble_eq_true rfl) (hw _ _ (cw_ow (by omega))) rfl) (ct_Worker_dropFlag_1 (t := t) (by omega) v0_43) ⟨(Nat.le_of_ble_eq_true rfl), (Nat.le_of_ble_eq_true rfl), (Nat.le_of_ble_eq_true rfl), (Nat.le_of_ble_eq_true rfl)⟩ ?_
  show sh_cW _ _ (_, _, [.int (K 2 t)]) (sh_u2 K 2 t 0) L _ _ _ _ _
  refine sh_cp (fun w Z k => sh_if_eq (tgt := 56) dc_Hall_acquire_46 (by decide) (fun _ => k) (fun z => absurd c1_46 z)) ?_
  refine sh_cp (fun w Z k => sh_aload_n dc_Hall_acquire_56 rfl rfl k) ?_
  refine sh_cp (fun w Z k => sh_aload dc_Hall_acquire_57 rfl k) ?_
  refine sh_cp (fun w Z k => sh_aload dc_Hall_acquire_59 rfl k) ?_
  refine sh_cp (fun w Z k => sh_iload_n dc_Hall_acquire_61 rfl rfl k) ?_
  refine sh_ccall (fun w hw => sh_virt (As := [.ref (A (10 + t)), .ref (A (20 + s)), .int (nI s)]) dc_Hall_acquire_62 lm_Hall_keepOrder ln_Hall_92 wd_500 wd_7 rfl rfl (Nat.le_of_ble_eq_true rfl) (hw _ _ cw_o0) rfl) (cl_kon_Semaphore (t := t) (s := s) (by omega) (by omega) (cw_okr_up (by decide) ho) ((congrArg cw_cl (sh_u2_row (by decide) _)).trans hk_s)) ⟨(Nat.le_of_ble_eq_true rfl), (Nat.le_of_ble_eq_true rfl), (Nat.le_of_ble_eq_true rfl), (Nat.le_of_ble_eq_true rfl)⟩ ?_
  show sh_cW _ _ (_, _, []) (sh_u2 K 2 t 0) L _ _ _ _ _
  refine sh_cp (fun w Z k => sh_aload dc_Hall_acquire_65 rfl k) ?_
  refine sh_cp (fun w Z k => sh_aload dc_Hall_acquire_67 rfl k) ?_
  refine sh_cp (fun w Z k => sh_iload_n dc_Hall_acquire_69 rfl rfl k) ?_
  refine sh_ccall (fun w hw => sh_virtU (As := [.ref (A (10 + t)), .int m]) dc_Hall_acquire_70 lm_Gate_checkWish wd_528 wd_530 (Or.inr ⟨_, _, _, wd_529, wd_540⟩) ⟨by decide, by decide⟩ (by decide +kernel) wd_529 wd_533 rfl rfl (Nat.le_of_ble_eq_true rfl) (hw _ _ (cw_oe (by omega) ((congrArg cw_cl (sh_u2_row (by decide) _)).trans hk_s))) rfl) (ct_Gate_checkWish_Semaphore_1 (t := t) (s := s) (m := m) (by omega) (by omega) ((congrArg cw_cl (sh_u2_row (by decide) _)).trans hk_s)) ⟨(Nat.le_of_ble_eq_true rfl), (Nat.le_of_ble_eq_true rfl), (Nat.le_of_ble_eq_true rfl), (Nat.le_of_ble_eq_true rfl)⟩ ?_
  show sh_cW _ _ (_, _, []) (sh_u2 K 2 t 0) L _ _ _ _ _
  refine sh_cp (fun w Z k => sh_aload dc_Hall_acquire_73 rfl k) ?_
  refine sh_cp (fun w Z k => sh_aload dc_Hall_acquire_75 rfl k) ?_
  refine sh_cp (fun w Z k => sh_iload_n dc_Hall_acquire_77 rfl rfl k) ?_
  refine sh_ccall (fun w hw => sh_virtU (As := [.ref (A (10 + t)), .int m]) dc_Hall_acquire_78 lm_Semaphore_mustQueue wd_541 wd_543 (Or.inl wd_542) ⟨by decide, by decide⟩ (by decide +kernel) wd_559 wd_558 rfl rfl (Nat.le_of_ble_eq_true rfl) (hw _ _ (cw_oe (by omega) ((congrArg cw_cl (sh_u2_row (by decide) _)).trans hk_s))) rfl) (cl_mq_Semaphore (s := s) (t := t) (m := m) (l := l) (by omega) (by omega) (cw_okr_up (by decide) ho) (cw_row_up (by decide) hr) hm ((congrArg cw_cl (sh_u2_row (by decide) _)).trans hk_s)) ⟨(Nat.le_of_ble_eq_true rfl), (Nat.le_of_ble_eq_true rfl), (Nat.le_of_ble_eq_true rfl), (Nat.le_of_ble_eq_true rfl)⟩ ?_
  show sh_cW _ _ (_, _, [.int (sp_b (sp_mq (sh_u2 K 2 t 0) t s m l))]) (sh_u2 K 2 t 0) L _ _ _ _ _
  refine sh_cp (fun w Z k => sh_if_ne (tgt := 111) dc_Hall_acquire_81 (by decide) (fun z => absurd c2_81 z) (fun _ => k)) ?_
  refine sh_cp (fun w Z k => sh_aload dc_Hall_acquire_84 rfl k) ?_
  refine sh_cp (fun w Z k => sh_aload dc_Hall_acquire_86 rfl k) ?_
  refine sh_cp (fun w Z k => sh_iload_n dc_Hall_acquire_88 rfl rfl k) ?_
  refine sh_ccall (fun w hw => sh_virtU (As := [.ref (A (10 + t)), .int m]) dc_Hall_acquire_89 lm_Semaphore_canTake wd_570 wd_572 (Or.inl wd_571) ⟨by decide, by decide⟩ (by decide +kernel) wd_580 wd_579 rfl rfl (Nat.le_of_ble_eq_true rfl) (hw _ _ (cw_oe (by omega) ((congrArg cw_cl (sh_u2_row (by decide) _)).trans hk_s))) rfl) (cl_can_Semaphore (s := s) (t := t) (m := m) (by omega) (by omega) (cw_okr_up (by decide) ho) hm ((congrArg cw_cl (sh_u2_row (by decide) _)).trans hk_s)) ⟨(Nat.le_of_ble_eq_true rfl), (Nat.le_of_ble_eq_true rfl), (Nat.le_of_ble_eq_true rfl), (Nat.le_of_ble_eq_true rfl)⟩ ?_
  show sh_cW _ _ (_, _, [.int (sp_b (sp_can (sh_u2 K 2 t 0) t s m))]) (sh_u2 K 2 t 0) L _ _ _ _ _
  refine sh_cp (fun w Z k => sh_if_eq (tgt := 111) dc_Hall_acquire_92 (by decide) (fun z => absurd z c3_92) (fun _ => k)) ?_
  refine sh_cp (fun w Z k => sh_aload dc_Hall_acquire_95 rfl k) ?_
  refine sh_cp (fun w Z k => sh_aload dc_Hall_acquire_97 rfl k) ?_
  refine sh_cp (fun w Z k => sh_iload_n dc_Hall_acquire_99 rfl rfl k) ?_
  refine sh_cp (fun w Z k => sh_iconst (v := 1) dc_Hall_acquire_100 (by decide) k) ?_
  refine sh_ccall (fun w hw => sh_virtU (As := [.ref (A (10 + t)), .int m, .int 1]) dc_Hall_acquire_101 lm_Semaphore_take wd_589 wd_591 (Or.inl wd_590) ⟨by decide, by decide⟩ (by decide +kernel) wd_599 wd_598 rfl rfl (Nat.le_of_ble_eq_true rfl) (hw _ _ (cw_oe (by omega) ((congrArg cw_cl (sh_u2_row (by decide) _)).trans hk_s))) rfl) (cl_take_Semaphore (s := s) (t := t) (m := m) (e := 1) (by omega) (by omega) ((congrArg cw_cl (sh_u2_row (by decide) _)).trans hk_s)) ⟨(Nat.le_of_ble_eq_true rfl), (Nat.le_of_ble_eq_true rfl), (Nat.le_of_ble_eq_true rfl), (Nat.le_of_ble_eq_true rfl)⟩ ?_
  show sh_cW _ _ (_, _, []) (sp_tk (sh_u2 K 2 t 0) t s m 1) L _ _ _ _ _
  refine sh_cp (fun w Z k => sh_aload dc_Hall_acquire_104 rfl k) ?_
  refine sh_cp (fun w Z k => sh_iconst (v := 1) dc_Hall_acquire_106 (by decide) k) ?_
  refine sh_ccall (fun w hw => sh_virt (As := [.int 1]) dc_Hall_acquire_107 lm_Worker_finish ln_Hall_89 wd_496 wd_6 rfl rfl (Nat.le_of_ble_eq_true rfl) (hw _ _ (cw_ow (by omega))) rfl) (ct_Worker_finish_1 (t := t) (x := 1) (by omega)) ⟨(Nat.le_of_ble_eq_true rfl), (Nat.le_of_ble_eq_true rfl), (Nat.le_of_ble_eq_true rfl), (Nat.le_of_ble_eq_true rfl)⟩ ?_
  show sh_cW _ _ (_, _, [.int 1]) (sh_u2 (sh_u2 (sp_tk (sh_u2 K 2 t 0) t s m 1) 4 t 1) 27 t 0) L _ _ _ _ _
  exact sh_ce (fun w => sh_ireturn dc_Hall_acquire_110 rfl rfl (by decide) (by decide))
theorem ct_Hall_acquire_Semaphore_5 {A : Nat → Nat} {K : sh_II} {L : sh_DD} {t : Nat} {s : Nat} {m : Int32} {y : UInt64} {l : List Nat} (ht : t < 6) (hs : s < 8) (hm : m = 0 ∨ m = 1) (hl1 : ¬ (Op.cmpValue (FP.dcmp y (FP.i2d (-1))) .l) < 0) (hl2 : (Op.cmpValue (FP.dcmp y (FP.i2d 1000)) .g) ≤ 0) (hp : (K 5 t) = -1) (ho : cw_okr K) (hr : cw_row K s l) (hlen : l.length < 6) (hk_s : cw_cl (K 12 s) = 5) (v0_43 : narrow .boolean (.int (K 2 t)) = .int (K 2 t)) (c1_46 : (K 2 t) = 0) (c2_81 : ¬ (sp_b (sp_mq (sh_u2 K 2 t 0) t s m l)) = 0) (c3_115 : (Op.cmpValue (FP.dcmp y FP.dconst0) .l) = 0) : sh_cM A md_Hall_acquire [.ref (A 0), .int (nI t), .int (nI s), .int m, .double y] K L (.inl (some (.int 2))) (sh_u2 (sh_u2 (sh_u2 K 2 t 0) 4 t 2) 27 t 0) L := by
  refine sh_cp (fun w Z k => sh_aload_n dc_Hall_acquire_0 rfl rfl k) ?_
  refine sh_cp (fun w Z k => sh_iload_n dc_Hall_acquire_1 rfl rfl k) ?_
  refine sh_ccall (fun w hw => sh_virt (As := [.int (nI t)]) dc_Hall_acquire_2 lm_Hall_workerAt ln_Hall_62 wd_448 wd_3 rfl rfl (Nat.le_of_ble_eq_true rfl) (hw _ _ cw_o0) rfl) (ct_Hall_workerAt_1 (t := t) (by omega)) ⟨(Nat.le_of_ble_eq_true rfl), (Nat.le_of_ble_eq_true rfl), (Nat.le_of_ble_eq_true rfl), (Nat.le_of_ble_eq_true rfl)⟩ ?_
  show sh_cW _ _ (_, _, [.ref (A (10 + t))]) K L _ _ _ _ _
  refine sh_cp (fun w Z k => sh_astore dc_Hall_acquire_5 (by decide) k) ?_
  refine sh_cp (fun w Z k => sh_iload_n dc_Hall_acquire_7 rfl rfl k) ?_
  refine sh_cp (fun w Z k => sh_iconst (v := 0) dc_Hall_acquire_8 (by decide) k) ?_
  refine sh_cp (fun w Z k => sh_iconst (v := 1) dc_Hall_acquire_9 (by decide) k) ?_
  refine sh_ccall (fun w hw => sh_stat (As := [.int m, .int 0, .int 1]) dc_Hall_acquire_10 lm_Hall_checkNumber ln_Hall_39 wd_191 wd_49 rfl rfl (Nat.le_of_ble_eq_true rfl)) (ct_Hall_checkNumber_2 (x := m) (lo := 0) (hi := 1) (sp_m0 hm) (sp_m1 hm)) ⟨(Nat.le_of_ble_eq_true rfl), (Nat.le_of_ble_eq_true rfl), (Nat.le_of_ble_eq_true rfl), (Nat.le_of_ble_eq_true rfl)⟩ ?_
  show sh_cW _ _ (_, _, []) K L _ _ _ _ _
  refine sh_cp (fun w Z k => sh_dload dc_Hall_acquire_13 rfl k) ?_
  refine sh_cp (fun w Z k => sh_iconst (v := (-1)) dc_Hall_acquire_15 (by decide) k) ?_
  refine sh_cp (fun w Z k => sh_sipush (v := 1000) dc_Hall_acquire_16 (by decide) k) ?_
  refine sh_ccall (fun w hw => sh_stat (As := [.double y, .int (-1), .int 1000]) dc_Hall_acquire_19 lm_Hall_checkAmount ln_Hall_66 wd_451 wd_49 rfl rfl (Nat.le_of_ble_eq_true rfl)) (ct_Hall_checkAmount_2 (x := y) (lo := (-1)) (hi := 1000) hl1 hl2) ⟨(Nat.le_of_ble_eq_true rfl), (Nat.le_of_ble_eq_true rfl), (Nat.le_of_ble_eq_true rfl), (Nat.le_of_ble_eq_true rfl)⟩ ?_
  show sh_cW _ _ (_, _, []) K L _ _ _ _ _
  refine sh_cp (fun w Z k => sh_aload_n dc_Hall_acquire_22 rfl rfl k) ?_
  refine sh_cp (fun w Z k => sh_iload_n dc_Hall_acquire_23 rfl rfl k) ?_
  refine sh_ccall (fun w hw => sh_virt (As := [.int (nI s)]) dc_Hall_acquire_24 lm_Hall_syncAt ln_Hall_73 wd_272 wd_2 rfl rfl (Nat.le_of_ble_eq_true rfl) (hw _ _ cw_o0) rfl) (ct_Hall_syncAt_2 (s := s) (by omega) (cw_nz hk_s (by decide))) ⟨(Nat.le_of_ble_eq_true rfl), (Nat.le_of_ble_eq_true rfl), (Nat.le_of_ble_eq_true rfl), (Nat.le_of_ble_eq_true rfl)⟩ ?_
  show sh_cW _ _ (_, _, [.ref (A (20 + s))]) K L _ _ _ _ _
  refine sh_cp (fun w Z k => sh_astore dc_Hall_acquire_27 (by decide) k) ?_
  refine sh_cp (fun w Z k => sh_aload dc_Hall_acquire_29 rfl k) ?_
  refine sh_ccall (fun w hw => sh_stat (As := [.ref (A (10 + t))]) dc_Hall_acquire_31 lm_Hall_checkRunning ln_Hall_77 wd_463 wd_49 rfl rfl (Nat.le_of_ble_eq_true rfl)) (ct_Hall_checkRunning_1 (t := t) (by omega) hp) ⟨(Nat.le_of_ble_eq_true rfl), (Nat.le_of_ble_eq_true rfl), (Nat.le_of_ble_eq_true rfl), (Nat.le_of_ble_eq_true rfl)⟩ ?_
  show sh_cW _ _ (_, _, []) K L _ _ _ _ _
  refine sh_cp (fun w Z k => sh_aload dc_Hall_acquire_34 rfl k) ?_
  refine sh_ccall (fun w hw => sh_stat (As := [.ref (A (20 + s))]) dc_Hall_acquire_36 lm_Hall_gateOf ln_Hall_81 wd_471 wd_49 rfl rfl (Nat.le_of_ble_eq_true rfl)) (ct_Hall_gateOf_Semaphore_1 (s := s) (by omega) hk_s) ⟨(Nat.le_of_ble_eq_true rfl), (Nat.le_of_ble_eq_true rfl), (Nat.le_of_ble_eq_true rfl), (Nat.le_of_ble_eq_true rfl)⟩ ?_
  show sh_cW _ _ (_, _, [.ref (A (20 + s))]) K L _ _ _ _ _
  refine sh_cp (fun w Z k => sh_astore dc_Hall_acquire_39 (by decide) k) ?_
  refine sh_cp (fun w Z k => sh_aload dc_Hall_acquire_41 rfl k) ?_
  refine sh_ccall (fun w hw => sh_virt (As := []) dc_Hall_acquire_43 lm_Worker_dropFlag ln_Hall_85 wd_492 wd_5 rfl rfl (Nat.le_of_ble_eq_true rfl) (hw _ _ (cw_ow (by omega))) rfl) (ct_Worker_dropFlag_1 (t := t) (by omega) v0_43) ⟨(Nat.le_of_ble_eq_true rfl), (Nat.le_of_ble_eq_true rfl), (Nat.le_of_ble_eq_true rfl), (Nat.le_of_ble_eq_true rfl)⟩ ?_
  show sh_cW _ _ (_, _, [.int (K 2 t)]) (sh_u2 K 2 t 0) L _ _ _ _ _
  refine sh_cp (fun w Z k => sh_if_eq (tgt := 56) dc_Hall_acquire_46 (by decide) (fun _ => k) (fun z => absurd c1_46 z)) ?_
  refine sh_cp (fun w Z k => sh_aload_n dc_Hall_acquire_56 rfl rfl k) ?_
  refine sh_cp (fun w Z k => sh_aload dc_Hall_acquire_57 rfl k) ?_
  refine sh_cp (fun w Z k => sh_aload dc_Hall_acquire_59 rfl k) ?_
  refine sh_cp (fun w Z k => sh_iload_n dc_Hall_acquire_61 rfl rfl k) ?_
  refine sh_ccall (fun w hw => sh_virt (As := [.ref (A (10 + t)), .ref (A (20 + s)), .int (nI s)]) dc_Hall_acquire_62 lm_Hall_keepOrder ln_Hall_92 wd_500 wd_7 rfl rfl (Nat.le_of_ble_eq_true rfl) (hw _ _ cw_o0) rfl) (cl_kon_Semaphore (t := t) (s := s) (by omega) (by omega) (cw_okr_up (by decide) ho) ((congrArg cw_cl (sh_u2_row (by decide) _)).trans hk_s)) ⟨(Nat.le_of_ble_eq_true rfl), (Nat.le_of_ble_eq_true rfl), (Nat.le_of_ble_eq_true rfl), (Nat.le_of_ble_eq_true rfl)⟩ ?_
  show sh_cW _ _ (_, _, []) (sh_u2 K 2 t 0) L _ _ _ _ _
  refine sh_cp (fun w Z k => sh_aload dc_Hall_acquire_65 rfl k) ?_
  refine sh_cp (fun w Z k => sh_aload dc_Hall_acquire_67 rfl k) ?_
  refine sh_cp (fun w Z k => sh_iload_n dc_Hall_acquire_69 rfl rfl k) ?_
  refine sh_ccall (fun w hw => sh_virtU (As := [.ref (A (10 + t)), .int m]) dc_Hall_acquire_70 lm_Gate_checkWish wd_528 wd_530 (Or.inr ⟨_, _, _, wd_529, wd_540⟩) ⟨by decide, by decide⟩ (by decide +kernel) wd_529 wd_533 rfl rfl (Nat.le_of_ble_eq_true rfl) (hw _ _ (cw_oe (by omega) ((congrArg cw_cl (sh_u2_row (by decide) _)).trans hk_s))) rfl) (ct_Gate_checkWish_Semaphore_1 (t := t) (s := s) (m := m) (by omega) (by omega) ((congrArg cw_cl (sh_u2_row (by decide) _)).trans hk_s)) ⟨(Nat.le_of_ble_eq_true rfl), (Nat.le_of_ble_eq_true rfl), (Nat.le_of_ble_eq_true rfl), (Nat.le_of_ble_eq_true rfl)⟩ ?_
  show sh_cW _ _ (_, _, []) (sh_u2 K 2 t 0) L _ _ _ _ _
  refine sh_cp (fun w Z k => sh_aload dc_Hall_acquire_73 rfl k) ?_
  refine sh_cp (fun w Z k => sh_aload dc_Hall_acquire_75 rfl k) ?_
  refine sh_cp (fun w Z k => sh_iload_n dc_Hall_acquire_77 rfl rfl k) ?_
  refine sh_ccall (fun w hw => sh_virtU (As := [.ref (A (10 + t)), .int m]) dc_Hall_acquire_78 lm_Semaphore_mustQueue wd_541 wd_543 (Or.inl wd_542) ⟨by decide, by decide⟩ (by decide +kernel) wd_559 wd_558 rfl rfl (Nat.le_of_ble_eq_true rfl) (hw _ _ (cw_oe (by omega) ((congrArg cw_cl (sh_u2_row (by decide) _)).trans hk_s))) rfl) (cl_mq_Semaphore (s := s) (t := t) (m := m) (l := l) (by omega) (by omega) (cw_okr_up (by decide) ho) (cw_row_up (by decide) hr) hm ((congrArg cw_cl (sh_u2_row (by decide) _)).trans hk_s)) ⟨(Nat.le_of_ble_eq_true rfl), (Nat.le_of_ble_eq_true rfl), (Nat.le_of_ble_eq_true rfl), (Nat.le_of_ble_eq_true rfl)⟩ ?_
  show sh_cW _ _ (_, _, [.int (sp_b (sp_mq (sh_u2 K 2 t 0) t s m l))]) (sh_u2 K 2 t 0) L _ _ _ _ _
  refine sh_cp (fun w Z k => sh_if_ne (tgt := 111) dc_Hall_acquire_81 (by decide) (fun _ => k) (fun z => absurd z c2_81)) ?_
  refine sh_cp (fun w Z k => sh_dload dc_Hall_acquire_111 rfl k) ?_
  refine sh_cp (fun w Z k => sh_dconst0 dc_Hall_acquire_113 k) ?_
  refine sh_cp (fun w Z k => sh_dcmp dc_Hall_acquire_114 k) ?_
  refine sh_cp (fun w Z k => sh_if_ne (tgt := 125) dc_Hall_acquire_115 (by decide) (fun z => absurd c3_115 z) (fun _ => k)) ?_
  refine sh_cp (fun w Z k => sh_aload dc_Hall_acquire_118 rfl k) ?_
  refine sh_cp (fun w Z k => sh_iconst (v := 2) dc_Hall_acquire_120 (by decide) k) ?_
  refine sh_ccall (fun w hw => sh_virt (As := [.int 2]) dc_Hall_acquire_121 lm_Worker_finish ln_Hall_89 wd_496 wd_6 rfl rfl (Nat.le_of_ble_eq_true rfl) (hw _ _ (cw_ow (by omega))) rfl) (ct_Worker_finish_1 (t := t) (x := 2) (by omega)) ⟨(Nat.le_of_ble_eq_true rfl), (Nat.le_of_ble_eq_true rfl), (Nat.le_of_ble_eq_true rfl), (Nat.le_of_ble_eq_true rfl)⟩ ?_
  show sh_cW _ _ (_, _, [.int 2]) (sh_u2 (sh_u2 (sh_u2 K 2 t 0) 4 t 2) 27 t 0) L _ _ _ _ _
  exact sh_ce (fun w => sh_ireturn dc_Hall_acquire_124 rfl rfl (by decide) (by decide))
theorem ct_Hall_acquire_Semaphore_6 {A : Nat → Nat} {K : sh_II} {L : sh_DD} {t : Nat} {s : Nat} {m : Int32} {y : UInt64} {l : List Nat} (ht : t < 6) (hs : s < 8) (hm : m = 0 ∨ m = 1) (hl1 : ¬ (Op.cmpValue (FP.dcmp y (FP.i2d (-1))) .l) < 0) (hl2 : (Op.cmpValue (FP.dcmp y (FP.i2d 1000)) .g) ≤ 0) (hp : (K 5 t) = -1) (ho : cw_okr K) (hr : cw_row K s l) (hlen : l.length < 6) (hk_s : cw_cl (K 12 s) = 5) (v0_43 : narrow .boolean (.int (K 2 t)) = .int (K 2 t)) (c1_46 : (K 2 t) = 0) (c2_81 : ¬ (sp_b (sp_mq (sh_u2 K 2 t 0) t s m l)) = 0) (c3_115 : ¬ (Op.cmpValue (FP.dcmp y FP.dconst0) .l) = 0) (c4_157 : (Op.cmpValue (FP.dcmp y FP.dconst0) .l) ≤ 0) : sh_cM A md_Hall_acquire [.ref (A 0), .int (nI t), .int (nI s), .int m, .double y] K L (.inl (some (.int ((sp_enq (sh_u2 (sh_u2 (sh_u2 K 2 t 0) 9 t 1) 10 t 1) s t m l) 4 t)))) (sp_enq (sh_u2 (sh_u2 (sh_u2 K 2 t 0) 9 t 1) 10 t 1) s t m l) (sh_u2 L 8 t (L 11 0)) := by
  refine sh_cp (fun w Z k => sh_aload_n dc_Hall_acquire_0 rfl rfl k) ?_
  refine sh_cp (fun w Z k => sh_iload_n dc_Hall_acquire_1 rfl rfl k) ?_
  refine sh_ccall (fun w hw => sh_virt (As := [.int (nI t)]) dc_Hall_acquire_2 lm_Hall_workerAt ln_Hall_62 wd_448 wd_3 rfl rfl (Nat.le_of_ble_eq_true rfl) (hw _ _ cw_o0) rfl) (ct_Hall_workerAt_1 (t := t) (by omega)) ⟨(Nat.le_of_ble_eq_true rfl), (Nat.le_of_ble_eq_true rfl), (Nat.le_of_ble_eq_true rfl), (Nat.le_of_ble_eq_true rfl)⟩ ?_
  show sh_cW _ _ (_, _, [.ref (A (10 + t))]) K L _ _ _ _ _
  refine sh_cp (fun w Z k => sh_astore dc_Hall_acquire_5 (by decide) k) ?_
  refine sh_cp (fun w Z k => sh_iload_n dc_Hall_acquire_7 rfl rfl k) ?_
  refine sh_cp (fun w Z k => sh_iconst (v := 0) dc_Hall_acquire_8 (by decide) k) ?_
  refine sh_cp (fun w Z k => sh_iconst (v := 1) dc_Hall_acquire_9 (by decide) k) ?_
  refine sh_ccall (fun w hw => sh_stat (As := [.int m, .int 0, .int 1]) dc_Hall_acquire_10 lm_Hall_checkNumber ln_Hall_39 wd_191 wd_49 rfl rfl (Nat.le_of_ble_eq_true rfl)) (ct_Hall_checkNumber_2 (x := m) (lo := 0) (hi := 1) (sp_m0 hm) (sp_m1 hm)) ⟨(Nat.le_of_ble_eq_true rfl), (Nat.le_of_ble_eq_true rfl), (Nat.le_of_ble_eq_true rfl), (Nat.le_of_ble_eq_true rfl)⟩ ?_
  show sh_cW _ _ (_, _, []) K L _ _ _ _ _
  refine sh_cp (fun w Z k => sh_dload dc_Hall_acquire_13 rfl k) ?_
  refine sh_cp (fun w Z k => sh_iconst (v := (-1)) dc_Hall_acquire_15 (by decide) k) ?_
  refine sh_cp (fun w Z k => sh_sipush (v := 1000) dc_Hall_acquire_16 (by decide) k) ?_
  refine sh_ccall (fun w hw => sh_stat (As := [.double y, .int (-1), .int 1000]) dc_Hall_acquire_19 lm_Hall_checkAmount ln_Hall_66 wd_451 wd_49 rfl rfl (Nat.le_of_ble_eq_true rfl)) (ct_Hall_checkAmount_2 (x := y) (lo := (-1)) (hi := 1000) hl1 hl2) ⟨(Nat.le_of_ble_eq_true rfl), (Nat.le_of_ble_eq_true rfl), (Nat.le_of_ble_eq_true rfl), (Nat.le_of_ble_eq_true rfl)⟩ ?_
  show sh_cW _ _ (_, _, []) K L _ _ _ _ _
  refine sh_cp (fun w Z k => sh_aload_n dc_Hall_acquire_22 rfl rfl k) ?_
  refine sh_cp (fun w Z k => sh_iload_n dc_Hall_acquire_23 rfl rfl k) ?_
  refine sh_ccall (fun w hw => sh_virt (As := [.int (nI s)]) dc_Hall_acquire_24 lm_Hall_syncAt ln_Hall_73 wd_272 wd_2 rfl rfl (Nat.le_of_ble_eq_true rfl) (hw _ _ cw_o0) rfl) (ct_Hall_syncAt_2 (s := s) (by omega) (cw_nz hk_s (by decide))) ⟨(Nat.le_of_ble_eq_true rfl), (Nat.le_of_ble_eq_true rfl), (Nat.le_of_ble_eq_true rfl), (Nat.le_of_ble_eq_true rfl)⟩ ?_
  show sh_cW _ _ (_, _, [.ref (A (20 + s))]) K L _ _ _ _ _
  refine sh_cp (fun w Z k => sh_astore dc_Hall_acquire_27 (by decide) k) ?_
  refine sh_cp (fun w Z k => sh_aload dc_Hall_acquire_29 rfl k) ?_
  refine sh_ccall (fun w hw => sh_stat (As := [.ref (A (10 + t))]) dc_Hall_acquire_31 lm_Hall_checkRunning ln_Hall_77 wd_463 wd_49 rfl rfl (Nat.le_of_ble_eq_true rfl)) (ct_Hall_checkRunning_1 (t := t) (by omega) hp) ⟨(Nat.le_of_ble_eq_true rfl), (Nat.le_of_ble_eq_true rfl), (Nat.le_of_ble_eq_true rfl), (Nat.le_of_ble_eq_true rfl)⟩ ?_
  show sh_cW _ _ (_, _, []) K L _ _ _ _ _
  refine sh_cp (fun w Z k => sh_aload dc_Hall_acquire_34 rfl k) ?_
  refine sh_ccall (fun w hw => sh_stat (As := [.ref (A (20 + s))]) dc_Hall_acquire_36 lm_Hall_gateOf ln_Hall_81 wd_471 wd_49 rfl rfl (Nat.le_of_ble_eq_true rfl)) (ct_Hall_gateOf_Semaphore_1 (s := s) (by omega) hk_s) ⟨(Nat.le_of_ble_eq_true rfl), (Nat.le_of_ble_eq_true rfl), (Nat.le_of_ble_eq_true rfl), (Nat.le_of_ble_eq_true rfl)⟩ ?_
  show sh_cW _ _ (_, _, [.ref (A (20 + s))]) K L _ _ _ _ _
  refine sh_cp (fun w Z k => sh_astore dc_Hall_acquire_39 (by decide) k) ?_
  refine sh_cp (fun w Z k => sh_aload dc_Hall_acquire_41 rfl k) ?_
  refine sh_ccall (fun w hw => sh_virt (As := []) dc_Hall_acquire_43 lm_Worker_dropFlag ln_Hall_85 wd_492 wd_5 rfl rfl (Nat.le_of_ble_eq_true rfl) (hw _ _ (cw_ow (by omega))) rfl) (ct_Worker_dropFlag_1 (t := t) (by omega) v0_43) ⟨(Nat.le_of_ble_eq_true rfl), (Nat.le_of_ble_eq_true rfl), (Nat.le_of_ble_eq_true rfl), (Nat.le_of_ble_eq_true rfl)⟩ ?_
  show sh_cW _ _ (_, _, [.int (K 2 t)]) (sh_u2 K 2 t 0) L _ _ _ _ _
  refine sh_cp (fun w Z k => sh_if_eq (tgt := 56) dc_Hall_acquire_46 (by decide) (fun _ => k) (fun z => absurd c1_46 z)) ?_
  refine sh_cp (fun w Z k => sh_aload_n dc_Hall_acquire_56 rfl rfl k) ?_
  refine sh_cp (fun w Z k => sh_aload dc_Hall_acquire_57 rfl k) ?_
  refine sh_cp (fun w Z k => sh_aload dc_Hall_acquire_59 rfl k) ?_
  refine sh_cp (fun w Z k => sh_iload_n dc_Hall_acquire_61 rfl rfl k) ?_
  refine sh_ccall (fun w hw => sh_virt (As := [.ref (A (10 + t)), .ref (A (20 + s)), .int (nI s)]) dc_Hall_acquire_62 lm_Hall_keepOrder ln_Hall_92 wd_500 wd_7 rfl rfl (Nat.le_of_ble_eq_true rfl) (hw _ _ cw_o0) rfl) (cl_kon_Semaphore (t := t) (s := s) (by omega) (by omega) (cw_okr_up (by decide) ho) ((congrArg cw_cl (sh_u2_row (by decide) _)).trans hk_s)) ⟨(Nat.le_of_ble_eq_true rfl), (Nat.le_of_ble_eq_true rfl), (Nat.le_of_ble_eq_true rfl), (Nat.le_of_ble_eq_true rfl)⟩ ?_
  show sh_cW _ _ (_, _, []) (sh_u2 K 2 t 0) L _ _ _ _ _
  refine sh_cp (fun w Z k => sh_aload dc_Hall_acquire_65 rfl k) ?_
  refine sh_cp (fun w Z k => sh_aload dc_Hall_acquire_67 rfl k) ?_
  refine sh_cp (fun w Z k => sh_iload_n dc_Hall_acquire_69 rfl rfl k) ?_
  refine sh_ccall (fun w hw => sh_virtU (As := [.ref (A (10 + t)), .int m]) dc_Hall_acquire_70 lm_Gate_checkWish wd_528 wd_530 (Or.inr ⟨_, _, _, wd_529, wd_540⟩) ⟨by decide, by decide⟩ (by decide +kernel) wd_529 wd_533 rfl rfl (Nat.le_of_ble_eq_true rfl) (hw _ _ (cw_oe (by omega) ((congrArg cw_cl (sh_u2_row (by decide) _)).trans hk_s))) rfl) (ct_Gate_checkWish_Semaphore_1 (t := t) (s := s) (m := m) (by omega) (by omega) ((congrArg cw_cl (sh_u2_row (by decide) _)).trans hk_s)) ⟨(Nat.le_of_ble_eq_true rfl), (Nat.le_of_ble_eq_true rfl), (Nat.le_of_ble_eq_true rfl), (Nat.le_of_ble_eq_true rfl)⟩ ?_
  show sh_cW _ _ (_, _, []) (sh_u2 K 2 t 0) L _ _ _ _ _
  refine sh_cp (fun w Z k => sh_aload dc_Hall_acquire_73 rfl k) ?_
  refine sh_cp (fun w Z k => sh_aload dc_Hall_acquire_75 rfl k) ?_
  refine sh_cp (fun w Z k => sh_iload_n dc_Hall_acquire_77 rfl rfl k) ?_
  refine sh_ccall (fun w hw => sh_virtU (As := [.ref (A (10 + t)), .int m]) dc_Hall_acquire_78 lm_Semaphore_mustQueue wd_541 wd_543 (Or.inl wd_542) ⟨by decide, by decide⟩ (by decide +kernel) wd_559 wd_558 rfl rfl (Nat.le_of_ble_eq_true rfl) (hw _ _ (cw_oe (by omega) ((congrArg cw_cl (sh_u2_row (by decide) _)).trans hk_s))) rfl) (cl_mq_Semaphore (s := s) (t := t) (m := m) (l := l) (by omega) (by omega) (cw_okr_up (by decide) ho) (cw_row_up (by decide) hr) hm ((congrArg cw_cl (sh_u2_row (by decide) _)).trans hk_s)) ⟨(Nat.le_of_ble_eq_true rfl), (Nat.le_of_ble_eq_true rfl), (Nat.le_of_ble_eq_true rfl), (Nat.le_of_ble_eq_true rfl)⟩ ?_
  show sh_cW _ _ (_, _, [.int (sp_b (sp_mq (sh_u2 K 2 t 0) t s m l))]) (sh_u2 K 2 t 0) L _ _ _ _ _
  refine sh_cp (fun w Z k => sh_if_ne (tgt := 111) dc_Hall_acquire_81 (by decide) (fun _ => k) (fun z => absurd z c2_81)) ?_
  refine sh_cp (fun w Z k => sh_dload dc_Hall_acquire_111 rfl k) ?_
  refine sh_cp (fun w Z k => sh_dconst0 dc_Hall_acquire_113 k) ?_
  refine sh_cp (fun w Z k => sh_dcmp dc_Hall_acquire_114 k) ?_
  refine sh_cp (fun w Z k => sh_if_ne (tgt := 125) dc_Hall_acquire_115 (by decide) (fun _ => k) (fun z => absurd z c3_115)) ?_
  refine sh_cp (fun w Z k => sh_aload dc_Hall_acquire_125 rfl k) ?_
  refine sh_cp (fun w Z k => sh_iconst (v := 1) dc_Hall_acquire_127 (by decide) k) ?_
  refine sh_cput (K1 := (sh_u2 (sh_u2 K 2 t 0) 9 t 1)) (L1 := L) (10 + t) 9 dc_Hall_acquire_128 (cw_ow (by omega)) rfl (by decide) fl_Hall_113 rfl rfl rfl rfl pd_I rfl rfl (cq_Worker_9 (by omega)) (fun i hi => cw_upI (by decide) hi) ?_
  refine sh_cp (fun w Z k => sh_aload dc_Hall_acquire_131 rfl k) ?_
  refine sh_cp (fun w Z k => sh_iconst (v := 1) dc_Hall_acquire_133 (by decide) k) ?_
  refine sh_cput (K1 := (sh_u2 (sh_u2 (sh_u2 K 2 t 0) 9 t 1) 10 t 1)) (L1 := L) (10 + t) 10 dc_Hall_acquire_134 (cw_ow (by omega)) rfl (by decide) fl_Hall_116 rfl rfl rfl rfl pd_I rfl rfl (cq_Worker_10 (by omega)) (fun i hi => cw_upI (by decide) hi) ?_
  refine sh_cp (fun w Z k => sh_aload dc_Hall_acquire_137 rfl k) ?_
  refine sh_cp (fun w Z k => sh_aload dc_Hall_acquire_139 rfl k) ?_
  refine sh_cp (fun w Z k => sh_iload_n dc_Hall_acquire_141 rfl rfl k) ?_
  refine sh_cp (fun w Z k => sh_aload_n dc_Hall_acquire_142 rfl rfl k) ?_
  refine sh_cget 0 4 dc_Hall_acquire_143 cw_o0 rfl (by decide) fl_Hall_35 rfl rfl rfl rfl ?_
  refine sh_ccall (fun w hw => sh_virtU (As := [.ref (A (10 + t)), .int m, .double (L 11 0)]) dc_Hall_acquire_146 lm_Sync_enqueue wd_604 wd_605 (Or.inl wd_606) ⟨by decide, by decide⟩ (by decide +kernel) wd_611 wd_609 rfl rfl (Nat.le_of_ble_eq_true rfl) (hw _ _ (cw_oe (by omega) ((congrArg cw_cl (Eq.trans (sh_u2_row (by decide) _) (Eq.trans (sh_u2_row (by decide) _) (sh_u2_row (by decide) _)))).trans hk_s))) rfl) (cl_enq_Semaphore (s := s) (t := t) (m := m) (a := L 11 0) (l := l) (by omega) (by omega) (cw_row_up (by decide) (cw_row_up (by decide) (cw_row_up (by decide) hr))) hlen ((congrArg cw_cl (Eq.trans (sh_u2_row (by decide) _) (Eq.trans (sh_u2_row (by decide) _) (sh_u2_row (by decide) _)))).trans hk_s)) ⟨(Nat.le_of_ble_eq_true rfl), (Nat.le_of_ble_eq_true rfl), (Nat.le_of_ble_eq_true rfl), (Nat.le_of_ble_eq_true rfl)⟩ ?_
  show sh_cW _ _ (_, _, []) (sp_enq (sh_u2 (sh_u2 (sh_u2 K 2 t 0) 9 t 1) 10 t 1) s t m l) (sh_u2 L 8 t (L 11 0)) _ _ _ _ _
  refine sh_cp (fun w Z k => sh_aload dc_Hall_acquire_149 rfl k) ?_
  refine sh_cp (fun w Z k => sh_aload_n dc_Hall_acquire_151 rfl rfl k) ?_
  refine sh_cget 0 4 dc_Hall_acquire_152 cw_o0 rfl (by decide) fl_Hall_35 rfl rfl rfl rfl ?_
  refine sh_ctd (show (sh_u2 L 8 t (L 11 0)) 11 0 = L 11 0 from (sh_u2_row (by decide) _)) ?_
  refine sh_cp (fun w Z k => sh_dload dc_Hall_acquire_155 rfl k) ?_
  refine sh_ccall (fun w hw => sh_virt (As := [.double (L 11 0), .double y]) dc_Hall_acquire_157 lm_Worker_setEnd ln_Hall_123 wd_619 wd_17 rfl rfl (Nat.le_of_ble_eq_true rfl) (hw _ _ (cw_ow (by omega))) rfl) (ct_Worker_setEnd_1 (t := t) (a := L 11 0) (b := y) (by omega) c4_157) ⟨(Nat.le_of_ble_eq_true rfl), (Nat.le_of_ble_eq_true rfl), (Nat.le_of_ble_eq_true rfl), (Nat.le_of_ble_eq_true rfl)⟩ ?_
  show sh_cW _ _ (_, _, []) (sp_enq (sh_u2 (sh_u2 (sh_u2 K 2 t 0) 9 t 1) 10 t 1) s t m l) (sh_u2 L 8 t (L 11 0)) _ _ _ _ _
  refine sh_cp (fun w Z k => sh_aload dc_Hall_acquire_160 rfl k) ?_
  refine sh_cget (10 + t) 3 dc_Hall_acquire_162 (cw_ow (by omega)) rfl (by decide) fl_Hall_127 rfl rfl rfl rfl ?_
  exact sh_ce (fun w => sh_ireturn dc_Hall_acquire_165 rfl rfl (by decide) (by decide))
theorem ct_Hall_acquire_Semaphore_7 {A : Nat → Nat} {K : sh_II} {L : sh_DD} {t : Nat} {s : Nat} {m : Int32} {y : UInt64} {l : List Nat} (ht : t < 6) (hs : s < 8) (hm : m = 0 ∨ m = 1) (hl1 : ¬ (Op.cmpValue (FP.dcmp y (FP.i2d (-1))) .l) < 0) (hl2 : (Op.cmpValue (FP.dcmp y (FP.i2d 1000)) .g) ≤ 0) (hp : (K 5 t) = -1) (ho : cw_okr K) (hr : cw_row K s l) (hlen : l.length < 6) (hk_s : cw_cl (K 12 s) = 5) (v0_43 : narrow .boolean (.int (K 2 t)) = .int (K 2 t)) (c1_46 : (K 2 t) = 0) (c2_81 : ¬ (sp_b (sp_mq (sh_u2 K 2 t 0) t s m l)) = 0) (c3_115 : ¬ (Op.cmpValue (FP.dcmp y FP.dconst0) .l) = 0) (c4_157 : ¬ (Op.cmpValue (FP.dcmp y FP.dconst0) .l) ≤ 0) (v5_157 : vf_n64 (FP.dadd (L 11 0) y)) : sh_cM A md_Hall_acquire [.ref (A 0), .int (nI t), .int (nI s), .int m, .double y] K L (.inl (some (.int ((sh_u2 (sp_enq (sh_u2 (sh_u2 (sh_u2 K 2 t 0) 9 t 1) 10 t 1) s t m l) 26 t 1) 4 t)))) (sh_u2 (sp_enq (sh_u2 (sh_u2 (sh_u2 K 2 t 0) 9 t 1) 10 t 1) s t m l) 26 t 1) (sh_u2 (sh_u2 L 8 t (L 11 0)) 7 t (FP.dadd (L 11 0) y)) := by
  refine sh_cp (fun w Z k => sh_aload_n dc_Hall_acquire_0 rfl rfl k) ?_
  refine sh_cp (fun w Z k => sh_iload_n dc_Hall_acquire_1 rfl rfl k) ?_
  refine sh_ccall (fun w hw => sh_virt (As := [.int (nI t)]) dc_Hall_acquire_2 lm_Hall_workerAt ln_Hall_62 wd_448 wd_3 rfl rfl (Nat.le_of_ble_eq_true rfl) (hw _ _ cw_o0) rfl) (ct_Hall_workerAt_1 (t := t) (by omega)) ⟨(Nat.le_of_ble_eq_true rfl), (Nat.le_of_ble_eq_true rfl), (Nat.le_of_ble_eq_true rfl), (Nat.le_of_ble_eq_true rfl)⟩ ?_
  show sh_cW _ _ (_, _, [.ref (A (10 + t))]) K L _ _ _ _ _
  refine sh_cp (fun w Z k => sh_astore dc_Hall_acquire_5 (by decide) k) ?_
  refine sh_cp (fun w Z k => sh_iload_n dc_Hall_acquire_7 rfl rfl k) ?_
  refine sh_cp (fun w Z k => sh_iconst (v := 0) dc_Hall_acquire_8 (by decide) k) ?_
  refine sh_cp (fun w Z k => sh_iconst (v := 1) dc_Hall_acquire_9 (by decide) k) ?_
  refine sh_ccall (fun w hw => sh_stat (As := [.int m, .int 0, .int 1]) dc_Hall_acquire_10 lm_Hall_checkNumber ln_Hall_39 wd_191 wd_49 rfl rfl (Nat.le_of_ble_eq_true rfl)) (ct_Hall_checkNumber_2 (x := m) (lo := 0) (hi := 1) (sp_m0 hm) (sp_m1 hm)) ⟨(Nat.le_of_ble_eq_true rfl), (Nat.le_of_ble_eq_true rfl), (Nat.le_of_ble_eq_true rfl), (Nat.le_of_ble_eq_true rfl)⟩ ?_
  show sh_cW _ _ (_, _, []) K L _ _ _ _ _
  refine sh_cp (fun w Z k => sh_dload dc_Hall_acquire_13 rfl k) ?_
  refine sh_cp (fun w Z k => sh_iconst (v := (-1)) dc_Hall_acquire_15 (by decide) k) ?_
  refine sh_cp (fun w Z k => sh_sipush (v := 1000) dc_Hall_acquire_16 (by decide) k) ?_
  refine sh_ccall (fun w hw => sh_stat (As := [.double y, .int (-1), .int 1000]) dc_Hall_acquire_19 lm_Hall_checkAmount ln_Hall_66 wd_451 wd_49 rfl rfl (Nat.le_of_ble_eq_true rfl)) (ct_Hall_checkAmount_2 (x := y) (lo := (-1)) (hi := 1000) hl1 hl2) ⟨(Nat.le_of_ble_eq_true rfl), (Nat.le_of_ble_eq_true rfl), (Nat.le_of_ble_eq_true rfl), (Nat.le_of_ble_eq_true rfl)⟩ ?_
  show sh_cW _ _ (_, _, []) K L _ _ _ _ _
  refine sh_cp (fun w Z k => sh_aload_n dc_Hall_acquire_22 rfl rfl k) ?_
  refine sh_cp (fun w Z k => sh_iload_n dc_Hall_acquire_23 rfl rfl k) ?_
  refine sh_ccall (fun w hw => sh_virt (As := [.int (nI s)]) dc_Hall_acquire_24 lm_Hall_syncAt ln_Hall_73 wd_272 wd_2 rfl rfl (Nat.le_of_ble_eq_true rfl) (hw _ _ cw_o0) rfl) (ct_Hall_syncAt_2 (s := s) (by omega) (cw_nz hk_s (by decide))) ⟨(Nat.le_of_ble_eq_true rfl), (Nat.le_of_ble_eq_true rfl), (Nat.le_of_ble_eq_true rfl), (Nat.le_of_ble_eq_true rfl)⟩ ?_
  show sh_cW _ _ (_, _, [.ref (A (20 + s))]) K L _ _ _ _ _
  refine sh_cp (fun w Z k => sh_astore dc_Hall_acquire_27 (by decide) k) ?_
  refine sh_cp (fun w Z k => sh_aload dc_Hall_acquire_29 rfl k) ?_
  refine sh_ccall (fun w hw => sh_stat (As := [.ref (A (10 + t))]) dc_Hall_acquire_31 lm_Hall_checkRunning ln_Hall_77 wd_463 wd_49 rfl rfl (Nat.le_of_ble_eq_true rfl)) (ct_Hall_checkRunning_1 (t := t) (by omega) hp) ⟨(Nat.le_of_ble_eq_true rfl), (Nat.le_of_ble_eq_true rfl), (Nat.le_of_ble_eq_true rfl), (Nat.le_of_ble_eq_true rfl)⟩ ?_
  show sh_cW _ _ (_, _, []) K L _ _ _ _ _
  refine sh_cp (fun w Z k => sh_aload dc_Hall_acquire_34 rfl k) ?_
  refine sh_ccall (fun w hw => sh_stat (As := [.ref (A (20 + s))]) dc_Hall_acquire_36 lm_Hall_gateOf ln_Hall_81 wd_471 wd_49 rfl rfl (Nat.le_of_ble_eq_true rfl)) (ct_Hall_gateOf_Semaphore_1 (s := s) (by omega) hk_s) ⟨(Nat.le_of_ble_eq_true rfl), (Nat.le_of_ble_eq_true rfl), (Nat.le_of_ble_eq_true rfl), (Nat.le_of_ble_eq_true rfl)⟩ ?_
  show sh_cW _ _ (_, _, [.ref (A (20 + s))]) K L _ _ _ _ _
  refine sh_cp (fun w Z k => sh_astore dc_Hall_acquire_39 (by decide) k) ?_
  refine sh_cp (fun w Z k => sh_aload dc_Hall_acquire_41 rfl k) ?_
  refine sh_ccall (fun w hw => sh_virt (As := []) dc_Hall_acquire_43 lm_Worker_dropFlag ln_Hall_85 wd_492 wd_5 rfl rfl (Nat.le_of_ble_eq_true rfl) (hw _ _ (cw_ow (by omega))) rfl) (ct_Worker_dropFlag_1 (t := t) (by omega) v0_43) ⟨(Nat.le_of_ble_eq_true rfl), (Nat.le_of_ble_eq_true rfl), (Nat.le_of_ble_eq_true rfl), (Nat.le_of_ble_eq_true rfl)⟩ ?_
  show sh_cW _ _ (_, _, [.int (K 2 t)]) (sh_u2 K 2 t 0) L _ _ _ _ _
  refine sh_cp (fun w Z k => sh_if_eq (tgt := 56) dc_Hall_acquire_46 (by decide) (fun _ => k) (fun z => absurd c1_46 z)) ?_
  refine sh_cp (fun w Z k => sh_aload_n dc_Hall_acquire_56 rfl rfl k) ?_
  refine sh_cp (fun w Z k => sh_aload dc_Hall_acquire_57 rfl k) ?_
  refine sh_cp (fun w Z k => sh_aload dc_Hall_acquire_59 rfl k) ?_
  refine sh_cp (fun w Z k => sh_iload_n dc_Hall_acquire_61 rfl rfl k) ?_
  refine sh_ccall (fun w hw => sh_virt (As := [.ref (A (10 + t)), .ref (A (20 + s)), .int (nI s)]) dc_Hall_acquire_62 lm_Hall_keepOrder ln_Hall_92 wd_500 wd_7 rfl rfl (Nat.le_of_ble_eq_true rfl) (hw _ _ cw_o0) rfl) (cl_kon_Semaphore (t := t) (s := s) (by omega) (by omega) (cw_okr_up (by decide) ho) ((congrArg cw_cl (sh_u2_row (by decide) _)).trans hk_s)) ⟨(Nat.le_of_ble_eq_true rfl), (Nat.le_of_ble_eq_true rfl), (Nat.le_of_ble_eq_true rfl), (Nat.le_of_ble_eq_true rfl)⟩ ?_
  show sh_cW _ _ (_, _, []) (sh_u2 K 2 t 0) L _ _ _ _ _
  refine sh_cp (fun w Z k => sh_aload dc_Hall_acquire_65 rfl k) ?_
  refine sh_cp (fun w Z k => sh_aload dc_Hall_acquire_67 rfl k) ?_
  refine sh_cp (fun w Z k => sh_iload_n dc_Hall_acquire_69 rfl rfl k) ?_
  refine sh_ccall (fun w hw => sh_virtU (As := [.ref (A (10 + t)), .int m]) dc_Hall_acquire_70 lm_Gate_checkWish wd_528 wd_530 (Or.inr ⟨_, _, _, wd_529, wd_540⟩) ⟨by decide, by decide⟩ (by decide +kernel) wd_529 wd_533 rfl rfl (Nat.le_of_ble_eq_true rfl) (hw _ _ (cw_oe (by omega) ((congrArg cw_cl (sh_u2_row (by decide) _)).trans hk_s))) rfl) (ct_Gate_checkWish_Semaphore_1 (t := t) (s := s) (m := m) (by omega) (by omega) ((congrArg cw_cl (sh_u2_row (by decide) _)).trans hk_s)) ⟨(Nat.le_of_ble_eq_true rfl), (Nat.le_of_ble_eq_true rfl), (Nat.le_of_ble_eq_true rfl), (Nat.le_of_ble_eq_true rfl)⟩ ?_
  show sh_cW _ _ (_, _, []) (sh_u2 K 2 t 0) L _ _ _ _ _
  refine sh_cp (fun w Z k => sh_aload dc_Hall_acquire_73 rfl k) ?_
  refine sh_cp (fun w Z k => sh_aload dc_Hall_acquire_75 rfl k) ?_
  refine sh_cp (fun w Z k => sh_iload_n dc_Hall_acquire_77 rfl rfl k) ?_
  refine sh_ccall (fun w hw => sh_virtU (As := [.ref (A (10 + t)), .int m]) dc_Hall_acquire_78 lm_Semaphore_mustQueue wd_541 wd_543 (Or.inl wd_542) ⟨by decide, by decide⟩ (by decide +kernel) wd_559 wd_558 rfl rfl (Nat.le_of_ble_eq_true rfl) (hw _ _ (cw_oe (by omega) ((congrArg cw_cl (sh_u2_row (by decide) _)).trans hk_s))) rfl) (cl_mq_Semaphore (s := s) (t := t) (m := m) (l := l) (by omega) (by omega) (cw_okr_up (by decide) ho) (cw_row_up (by decide) hr) hm ((congrArg cw_cl (sh_u2_row (by decide) _)).trans hk_s)) ⟨(Nat.le_of_ble_eq_true rfl), (Nat.le_of_ble_eq_true rfl), (Nat.le_of_ble_eq_true rfl), (Nat.le_of_ble_eq_true rfl)⟩ ?_
  show sh_cW _ _ (_, _, [.int (sp_b (sp_mq (sh_u2 K 2 t 0) t s m l))]) (sh_u2 K 2 t 0) L _ _ _ _ _
  refine sh_cp (fun w Z k => sh_if_ne (tgt := 111) dc_Hall_acquire_81 (by decide) (fun _ => k) (fun z => absurd z c2_81)) ?_
  refine sh_cp (fun w Z k => sh_dload dc_Hall_acquire_111 rfl k) ?_
  refine sh_cp (fun w Z k => sh_dconst0 dc_Hall_acquire_113 k) ?_
  refine sh_cp (fun w Z k => sh_dcmp dc_Hall_acquire_114 k) ?_
  refine sh_cp (fun w Z k => sh_if_ne (tgt := 125) dc_Hall_acquire_115 (by decide) (fun _ => k) (fun z => absurd z c3_115)) ?_
  refine sh_cp (fun w Z k => sh_aload dc_Hall_acquire_125 rfl k) ?_
  refine sh_cp (fun w Z k => sh_iconst (v := 1) dc_Hall_acquire_127 (by decide) k) ?_
  refine sh_cput (K1 := (sh_u2 (sh_u2 K 2 t 0) 9 t 1)) (L1 := L) (10 + t) 9 dc_Hall_acquire_128 (cw_ow (by omega)) rfl (by decide) fl_Hall_113 rfl rfl rfl rfl pd_I rfl rfl (cq_Worker_9 (by omega)) (fun i hi => cw_upI (by decide) hi) ?_
  refine sh_cp (fun w Z k => sh_aload dc_Hall_acquire_131 rfl k) ?_
  refine sh_cp (fun w Z k => sh_iconst (v := 1) dc_Hall_acquire_133 (by decide) k) ?_
  refine sh_cput (K1 := (sh_u2 (sh_u2 (sh_u2 K 2 t 0) 9 t 1) 10 t 1)) (L1 := L) (10 + t) 10 dc_Hall_acquire_134 (cw_ow (by omega)) rfl (by decide) fl_Hall_116 rfl rfl rfl rfl pd_I rfl rfl (cq_Worker_10 (by omega)) (fun i hi => cw_upI (by decide) hi) ?_
  refine sh_cp (fun w Z k => sh_aload dc_Hall_acquire_137 rfl k) ?_
  refine sh_cp (fun w Z k => sh_aload dc_Hall_acquire_139 rfl k) ?_
  refine sh_cp (fun w Z k => sh_iload_n dc_Hall_acquire_141 rfl rfl k) ?_
  refine sh_cp (fun w Z k => sh_aload_n dc_Hall_acquire_142 rfl rfl k) ?_
  refine sh_cget 0 4 dc_Hall_acquire_143 cw_o0 rfl (by decide) fl_Hall_35 rfl rfl rfl rfl ?_
  refine sh_ccall (fun w hw => sh_virtU (As := [.ref (A (10 + t)), .int m, .double (L 11 0)]) dc_Hall_acquire_146 lm_Sync_enqueue wd_604 wd_605 (Or.inl wd_606) ⟨by decide, by decide⟩ (by decide +kernel) wd_611 wd_609 rfl rfl (Nat.le_of_ble_eq_true rfl) (hw _ _ (cw_oe (by omega) ((congrArg cw_cl (Eq.trans (sh_u2_row (by decide) _) (Eq.trans (sh_u2_row (by decide) _) (sh_u2_row (by decide) _)))).trans hk_s))) rfl) (cl_enq_Semaphore (s := s) (t := t) (m := m) (a := L 11 0) (l := l) (by omega) (by omega) (cw_row_up (by decide) (cw_row_up (by decide) (cw_row_up (by decide) hr))) hlen ((congrArg cw_cl (Eq.trans (sh_u2_row (by decide) _) (Eq.trans (sh_u2_row (by decide) _) (sh_u2_row (by decide) _)))).trans hk_s)) ⟨(Nat.le_of_ble_eq_true rfl), (Nat.le_of_ble_eq_true rfl), (Nat.le_of_ble_eq_true rfl), (Nat.le_of_ble_eq_true rfl)⟩ ?_
  show sh_cW _ _ (_, _, []) (sp_enq (sh_u2 (sh_u2 (sh_u2 K 2 t 0) 9 t 1) 10 t 1) s t m l) (sh_u2 L 8 t (L 11 0)) _ _ _ _ _
  refine sh_cp (fun w Z k => sh_aload dc_Hall_acquire_149 rfl k) ?_
  refine sh_cp (fun w Z k => sh_aload_n dc_Hall_acquire_151 rfl rfl k) ?_
  refine sh_cget 0 4 dc_Hall_acquire_152 cw_o0 rfl (by decide) fl_Hall_35 rfl rfl rfl rfl ?_
  refine sh_ctd (show (sh_u2 L 8 t (L 11 0)) 11 0 = L 11 0 from (sh_u2_row (by decide) _)) ?_
  refine sh_cp (fun w Z k => sh_dload dc_Hall_acquire_155 rfl k) ?_
  refine sh_ccall (fun w hw => sh_virt (As := [.double (L 11 0), .double y]) dc_Hall_acquire_157 lm_Worker_setEnd ln_Hall_123 wd_619 wd_17 rfl rfl (Nat.le_of_ble_eq_true rfl) (hw _ _ (cw_ow (by omega))) rfl) (ct_Worker_setEnd_2 (t := t) (a := L 11 0) (b := y) (by omega) c4_157 v5_157) ⟨(Nat.le_of_ble_eq_true rfl), (Nat.le_of_ble_eq_true rfl), (Nat.le_of_ble_eq_true rfl), (Nat.le_of_ble_eq_true rfl)⟩ ?_
  show sh_cW _ _ (_, _, []) (sh_u2 (sp_enq (sh_u2 (sh_u2 (sh_u2 K 2 t 0) 9 t 1) 10 t 1) s t m l) 26 t 1) (sh_u2 (sh_u2 L 8 t (L 11 0)) 7 t (FP.dadd (L 11 0) y)) _ _ _ _ _
  refine sh_cp (fun w Z k => sh_aload dc_Hall_acquire_160 rfl k) ?_
  refine sh_cget (10 + t) 3 dc_Hall_acquire_162 (cw_ow (by omega)) rfl (by decide) fl_Hall_127 rfl rfl rfl rfl ?_
  exact sh_ce (fun w => sh_ireturn dc_Hall_acquire_165 rfl rfl (by decide) (by decide))
theorem ct_Hall_acquire_Semaphore_8 {A : Nat → Nat} {K : sh_II} {L : sh_DD} {t : Nat} {s : Nat} {m : Int32} {y : UInt64} {l : List Nat} (ht : t < 6) (hs : s < 8) (hm : m = 0 ∨ m = 1) (hl1 : ¬ (Op.cmpValue (FP.dcmp y (FP.i2d (-1))) .l) < 0) (hl2 : (Op.cmpValue (FP.dcmp y (FP.i2d 1000)) .g) ≤ 0) (hp : (K 5 t) = -1) (ho : cw_okr K) (hr : cw_row K s l) (hlen : l.length < 6) (hk_s : cw_cl (K 12 s) = 5) (v0_43 : narrow .boolean (.int (K 2 t)) = .int (K 2 t)) (c1_46 : ¬ (K 2 t) = 0) : sh_cM A md_Hall_acquire [.ref (A 0), .int (nI t), .int (nI s), .int m, .double y] K L (.inl (some (.int 3))) (sh_u2 (sh_u2 (sh_u2 K 2 t 0) 4 t 3) 27 t 0) L := by
  refine sh_cp (fun w Z k => sh_aload_n dc_Hall_acquire_0 rfl rfl k) ?_
  refine sh_cp (fun w Z k => sh_iload_n dc_Hall_acquire_1 rfl rfl k) ?_
  refine sh_ccall (fun w hw => sh_virt (As := [.int (nI t)]) dc_Hall_acquire_2 lm_Hall_workerAt ln_Hall_62 wd_448 wd_3 rfl rfl (Nat.le_of_ble_eq_true rfl) (hw _ _ cw_o0) rfl) (ct_Hall_workerAt_1 (t := t) (by omega)) ⟨(Nat.le_of_ble_eq_true rfl), (Nat.le_of_ble_eq_true rfl), (Nat.le_of_ble_eq_true rfl), (Nat.le_of_ble_eq_true rfl)⟩ ?_
  show sh_cW _ _ (_, _, [.ref (A (10 + t))]) K L _ _ _ _ _
  refine sh_cp (fun w Z k => sh_astore dc_Hall_acquire_5 (by decide) k) ?_
  refine sh_cp (fun w Z k => sh_iload_n dc_Hall_acquire_7 rfl rfl k) ?_
  refine sh_cp (fun w Z k => sh_iconst (v := 0) dc_Hall_acquire_8 (by decide) k) ?_
  refine sh_cp (fun w Z k => sh_iconst (v := 1) dc_Hall_acquire_9 (by decide) k) ?_
  refine sh_ccall (fun w hw => sh_stat (As := [.int m, .int 0, .int 1]) dc_Hall_acquire_10 lm_Hall_checkNumber ln_Hall_39 wd_191 wd_49 rfl rfl (Nat.le_of_ble_eq_true rfl)) (ct_Hall_checkNumber_2 (x := m) (lo := 0) (hi := 1) (sp_m0 hm) (sp_m1 hm)) ⟨(Nat.le_of_ble_eq_true rfl), (Nat.le_of_ble_eq_true rfl), (Nat.le_of_ble_eq_true rfl), (Nat.le_of_ble_eq_true rfl)⟩ ?_
  show sh_cW _ _ (_, _, []) K L _ _ _ _ _
  refine sh_cp (fun w Z k => sh_dload dc_Hall_acquire_13 rfl k) ?_
  refine sh_cp (fun w Z k => sh_iconst (v := (-1)) dc_Hall_acquire_15 (by decide) k) ?_
  refine sh_cp (fun w Z k => sh_sipush (v := 1000) dc_Hall_acquire_16 (by decide) k) ?_
  refine sh_ccall (fun w hw => sh_stat (As := [.double y, .int (-1), .int 1000]) dc_Hall_acquire_19 lm_Hall_checkAmount ln_Hall_66 wd_451 wd_49 rfl rfl (Nat.le_of_ble_eq_true rfl)) (ct_Hall_checkAmount_2 (x := y) (lo := (-1)) (hi := 1000) hl1 hl2) ⟨(Nat.le_of_ble_eq_true rfl), (Nat.le_of_ble_eq_true rfl), (Nat.le_of_ble_eq_true rfl), (Nat.le_of_ble_eq_true rfl)⟩ ?_
  show sh_cW _ _ (_, _, []) K L _ _ _ _ _
  refine sh_cp (fun w Z k => sh_aload_n dc_Hall_acquire_22 rfl rfl k) ?_
  refine sh_cp (fun w Z k => sh_iload_n dc_Hall_acquire_23 rfl rfl k) ?_
  refine sh_ccall (fun w hw => sh_virt (As := [.int (nI s)]) dc_Hall_acquire_24 lm_Hall_syncAt ln_Hall_73 wd_272 wd_2 rfl rfl (Nat.le_of_ble_eq_true rfl) (hw _ _ cw_o0) rfl) (ct_Hall_syncAt_2 (s := s) (by omega) (cw_nz hk_s (by decide))) ⟨(Nat.le_of_ble_eq_true rfl), (Nat.le_of_ble_eq_true rfl), (Nat.le_of_ble_eq_true rfl), (Nat.le_of_ble_eq_true rfl)⟩ ?_
  show sh_cW _ _ (_, _, [.ref (A (20 + s))]) K L _ _ _ _ _
  refine sh_cp (fun w Z k => sh_astore dc_Hall_acquire_27 (by decide) k) ?_
  refine sh_cp (fun w Z k => sh_aload dc_Hall_acquire_29 rfl k) ?_
  refine sh_ccall (fun w hw => sh_stat (As := [.ref (A (10 + t))]) dc_Hall_acquire_31 lm_Hall_checkRunning ln_Hall_77 wd_463 wd_49 rfl rfl (Nat.le_of_ble_eq_true rfl)) (ct_Hall_checkRunning_1 (t := t) (by omega) hp) ⟨(Nat.le_of_ble_eq_true rfl), (Nat.le_of_ble_eq_true rfl), (Nat.le_of_ble_eq_true rfl), (Nat.le_of_ble_eq_true rfl)⟩ ?_
  show sh_cW _ _ (_, _, []) K L _ _ _ _ _
  refine sh_cp (fun w Z k => sh_aload dc_Hall_acquire_34 rfl k) ?_
  refine sh_ccall (fun w hw => sh_stat (As := [.ref (A (20 + s))]) dc_Hall_acquire_36 lm_Hall_gateOf ln_Hall_81 wd_471 wd_49 rfl rfl (Nat.le_of_ble_eq_true rfl)) (ct_Hall_gateOf_Semaphore_1 (s := s) (by omega) hk_s) ⟨(Nat.le_of_ble_eq_true rfl), (Nat.le_of_ble_eq_true rfl), (Nat.le_of_ble_eq_true rfl), (Nat.le_of_ble_eq_true rfl)⟩ ?_
  show sh_cW _ _ (_, _, [.ref (A (20 + s))]) K L _ _ _ _ _
  refine sh_cp (fun w Z k => sh_astore dc_Hall_acquire_39 (by decide) k) ?_
  refine sh_cp (fun w Z k => sh_aload dc_Hall_acquire_41 rfl k) ?_
  refine sh_ccall (fun w hw => sh_virt (As := []) dc_Hall_acquire_43 lm_Worker_dropFlag ln_Hall_85 wd_492 wd_5 rfl rfl (Nat.le_of_ble_eq_true rfl) (hw _ _ (cw_ow (by omega))) rfl) (ct_Worker_dropFlag_1 (t := t) (by omega) v0_43) ⟨(Nat.le_of_ble_eq_true rfl), (Nat.le_of_ble_eq_true rfl), (Nat.le_of_ble_eq_true rfl), (Nat.le_of_ble_eq_true rfl)⟩ ?_
  show sh_cW _ _ (_, _, [.int (K 2 t)]) (sh_u2 K 2 t 0) L _ _ _ _ _
  refine sh_cp (fun w Z k => sh_if_eq (tgt := 56) dc_Hall_acquire_46 (by decide) (fun z => absurd z c1_46) (fun _ => k)) ?_
  refine sh_cp (fun w Z k => sh_aload dc_Hall_acquire_49 rfl k) ?_
  refine sh_cp (fun w Z k => sh_iconst (v := 3) dc_Hall_acquire_51 (by decide) k) ?_
  refine sh_ccall (fun w hw => sh_virt (As := [.int 3]) dc_Hall_acquire_52 lm_Worker_finish ln_Hall_89 wd_496 wd_6 rfl rfl (Nat.le_of_ble_eq_true rfl) (hw _ _ (cw_ow (by omega))) rfl) (ct_Worker_finish_1 (t := t) (x := 3) (by omega)) ⟨(Nat.le_of_ble_eq_true rfl), (Nat.le_of_ble_eq_true rfl), (Nat.le_of_ble_eq_true rfl), (Nat.le_of_ble_eq_true rfl)⟩ ?_
  show sh_cW _ _ (_, _, [.int 3]) (sh_u2 (sh_u2 (sh_u2 K 2 t 0) 4 t 3) 27 t 0) L _ _ _ _ _
  exact sh_ce (fun w => sh_ireturn dc_Hall_acquire_55 rfl rfl (by decide) (by decide))
theorem ct_Hall_acquire_Latch_1 {A : Nat → Nat} {K : sh_II} {L : sh_DD} {t : Nat} {s : Nat} {m : Int32} {y : UInt64} {l : List Nat} (ht : t < 6) (hs : s < 8) (hm : m = 0 ∨ m = 1) (hl1 : ¬ (Op.cmpValue (FP.dcmp y (FP.i2d (-1))) .l) < 0) (hl2 : (Op.cmpValue (FP.dcmp y (FP.i2d 1000)) .g) ≤ 0) (hp : (K 5 t) = -1) (ho : cw_okr K) (hr : cw_row K s l) (hlen : l.length < 6) (hk_s : cw_cl (K 12 s) = 6) (v0_43 : narrow .boolean (.int (K 2 t)) = .int (K 2 t)) (c1_46 : (K 2 t) = 0) (c2_81 : (sp_b (sp_mq (sh_u2 K 2 t 0) t s m l)) = 0) (c3_92 : (sp_b (sp_can (sh_u2 K 2 t 0) t s m)) = 0) (c4_115 : (Op.cmpValue (FP.dcmp y FP.dconst0) .l) = 0) : sh_cM A md_Hall_acquire [.ref (A 0), .int (nI t), .int (nI s), .int m, .double y] K L (.inl (some (.int 2))) (sh_u2 (sh_u2 (sh_u2 K 2 t 0) 4 t 2) 27 t 0) L := by
  refine sh_cp (fun w Z k => sh_aload_n dc_Hall_acquire_0 rfl rfl k) ?_
  refine sh_cp (fun w Z k => sh_iload_n dc_Hall_acquire_1 rfl rfl k) ?_
  refine sh_ccall (fun w hw => sh_virt (As := [.int (nI t)]) dc_Hall_acquire_2 lm_Hall_workerAt ln_Hall_62 wd_448 wd_3 rfl rfl (Nat.le_of_ble_eq_true rfl) (hw _ _ cw_o0) rfl) (ct_Hall_workerAt_1 (t := t) (by omega)) ⟨(Nat.le_of_ble_eq_true rfl), (Nat.le_of_ble_eq_true rfl), (Nat.le_of_ble_eq_true rfl), (Nat.le_of_ble_eq_true rfl)⟩ ?_
  show sh_cW _ _ (_, _, [.ref (A (10 + t))]) K L _ _ _ _ _
  refine sh_cp (fun w Z k => sh_astore dc_Hall_acquire_5 (by decide) k) ?_
  refine sh_cp (fun w Z k => sh_iload_n dc_Hall_acquire_7 rfl rfl k) ?_
  refine sh_cp (fun w Z k => sh_iconst (v := 0) dc_Hall_acquire_8 (by decide) k) ?_
  refine sh_cp (fun w Z k => sh_iconst (v := 1) dc_Hall_acquire_9 (by decide) k) ?_
  refine sh_ccall (fun w hw => sh_stat (As := [.int m, .int 0, .int 1]) dc_Hall_acquire_10 lm_Hall_checkNumber ln_Hall_39 wd_191 wd_49 rfl rfl (Nat.le_of_ble_eq_true rfl)) (ct_Hall_checkNumber_2 (x := m) (lo := 0) (hi := 1) (sp_m0 hm) (sp_m1 hm)) ⟨(Nat.le_of_ble_eq_true rfl), (Nat.le_of_ble_eq_true rfl), (Nat.le_of_ble_eq_true rfl), (Nat.le_of_ble_eq_true rfl)⟩ ?_
  show sh_cW _ _ (_, _, []) K L _ _ _ _ _
  refine sh_cp (fun w Z k => sh_dload dc_Hall_acquire_13 rfl k) ?_
  refine sh_cp (fun w Z k => sh_iconst (v := (-1)) dc_Hall_acquire_15 (by decide) k) ?_
  refine sh_cp (fun w Z k => sh_sipush (v := 1000) dc_Hall_acquire_16 (by decide) k) ?_
  refine sh_ccall (fun w hw => sh_stat (As := [.double y, .int (-1), .int 1000]) dc_Hall_acquire_19 lm_Hall_checkAmount ln_Hall_66 wd_451 wd_49 rfl rfl (Nat.le_of_ble_eq_true rfl)) (ct_Hall_checkAmount_2 (x := y) (lo := (-1)) (hi := 1000) hl1 hl2) ⟨(Nat.le_of_ble_eq_true rfl), (Nat.le_of_ble_eq_true rfl), (Nat.le_of_ble_eq_true rfl), (Nat.le_of_ble_eq_true rfl)⟩ ?_
  show sh_cW _ _ (_, _, []) K L _ _ _ _ _
  refine sh_cp (fun w Z k => sh_aload_n dc_Hall_acquire_22 rfl rfl k) ?_
  refine sh_cp (fun w Z k => sh_iload_n dc_Hall_acquire_23 rfl rfl k) ?_
  refine sh_ccall (fun w hw => sh_virt (As := [.int (nI s)]) dc_Hall_acquire_24 lm_Hall_syncAt ln_Hall_73 wd_272 wd_2 rfl rfl (Nat.le_of_ble_eq_true rfl) (hw _ _ cw_o0) rfl) (ct_Hall_syncAt_2 (s := s) (by omega) (cw_nz hk_s (by decide))) ⟨(Nat.le_of_ble_eq_true rfl), (Nat.le_of_ble_eq_true rfl), (Nat.le_of_ble_eq_true rfl), (Nat.le_of_ble_eq_true rfl)⟩ ?_
  show sh_cW _ _ (_, _, [.ref (A (20 + s))]) K L _ _ _ _ _
  refine sh_cp (fun w Z k => sh_astore dc_Hall_acquire_27 (by decide) k) ?_
  refine sh_cp (fun w Z k => sh_aload dc_Hall_acquire_29 rfl k) ?_
  refine sh_ccall (fun w hw => sh_stat (As := [.ref (A (10 + t))]) dc_Hall_acquire_31 lm_Hall_checkRunning ln_Hall_77 wd_463 wd_49 rfl rfl (Nat.le_of_ble_eq_true rfl)) (ct_Hall_checkRunning_1 (t := t) (by omega) hp) ⟨(Nat.le_of_ble_eq_true rfl), (Nat.le_of_ble_eq_true rfl), (Nat.le_of_ble_eq_true rfl), (Nat.le_of_ble_eq_true rfl)⟩ ?_
  show sh_cW _ _ (_, _, []) K L _ _ _ _ _
  refine sh_cp (fun w Z k => sh_aload dc_Hall_acquire_34 rfl k) ?_
  refine sh_ccall (fun w hw => sh_stat (As := [.ref (A (20 + s))]) dc_Hall_acquire_36 lm_Hall_gateOf ln_Hall_81 wd_471 wd_49 rfl rfl (Nat.le_of_ble_eq_true rfl)) (ct_Hall_gateOf_Latch_1 (s := s) (by omega) hk_s) ⟨(Nat.le_of_ble_eq_true rfl), (Nat.le_of_ble_eq_true rfl), (Nat.le_of_ble_eq_true rfl), (Nat.le_of_ble_eq_true rfl)⟩ ?_
  show sh_cW _ _ (_, _, [.ref (A (20 + s))]) K L _ _ _ _ _
  refine sh_cp (fun w Z k => sh_astore dc_Hall_acquire_39 (by decide) k) ?_
  refine sh_cp (fun w Z k => sh_aload dc_Hall_acquire_41 rfl k) ?_
  refine sh_ccall (fun w hw => sh_virt (As := []) dc_Hall_acquire_43 lm_Worker_dropFlag ln_Hall_85 wd_492 wd_5 rfl rfl (Nat.le_of_ble_eq_true rfl) (hw _ _ (cw_ow (by omega))) rfl) (ct_Worker_dropFlag_1 (t := t) (by omega) v0_43) ⟨(Nat.le_of_ble_eq_true rfl), (Nat.le_of_ble_eq_true rfl), (Nat.le_of_ble_eq_true rfl), (Nat.le_of_ble_eq_true rfl)⟩ ?_
  show sh_cW _ _ (_, _, [.int (K 2 t)]) (sh_u2 K 2 t 0) L _ _ _ _ _
  refine sh_cp (fun w Z k => sh_if_eq (tgt := 56) dc_Hall_acquire_46 (by decide) (fun _ => k) (fun z => absurd c1_46 z)) ?_
  refine sh_cp (fun w Z k => sh_aload_n dc_Hall_acquire_56 rfl rfl k) ?_
  refine sh_cp (fun w Z k => sh_aload dc_Hall_acquire_57 rfl k) ?_
  refine sh_cp (fun w Z k => sh_aload dc_Hall_acquire_59 rfl k) ?_
  refine sh_cp (fun w Z k => sh_iload_n dc_Hall_acquire_61 rfl rfl k) ?_
  refine sh_ccall (fun w hw => sh_virt (As := [.ref (A (10 + t)), .ref (A (20 + s)), .int (nI s)]) dc_Hall_acquire_62 lm_Hall_keepOrder ln_Hall_92 wd_500 wd_7 rfl rfl (Nat.le_of_ble_eq_true rfl) (hw _ _ cw_o0) rfl) (cl_kon_Latch (t := t) (s := s) (by omega) (by omega) (cw_okr_up (by decide) ho) ((congrArg cw_cl (sh_u2_row (by decide) _)).trans hk_s)) ⟨(Nat.le_of_ble_eq_true rfl), (Nat.le_of_ble_eq_true rfl), (Nat.le_of_ble_eq_true rfl), (Nat.le_of_ble_eq_true rfl)⟩ ?_
  show sh_cW _ _ (_, _, []) (sh_u2 K 2 t 0) L _ _ _ _ _
  refine sh_cp (fun w Z k => sh_aload dc_Hall_acquire_65 rfl k) ?_
  refine sh_cp (fun w Z k => sh_aload dc_Hall_acquire_67 rfl k) ?_
  refine sh_cp (fun w Z k => sh_iload_n dc_Hall_acquire_69 rfl rfl k) ?_
  refine sh_ccall (fun w hw => sh_virtU (As := [.ref (A (10 + t)), .int m]) dc_Hall_acquire_70 lm_Gate_checkWish wd_528 wd_530 (Or.inr ⟨_, _, _, wd_529, wd_540⟩) ⟨by decide, by decide⟩ (by decide +kernel) wd_529 wd_531 rfl rfl (Nat.le_of_ble_eq_true rfl) (hw _ _ (cw_oa (by omega) ((congrArg cw_cl (sh_u2_row (by decide) _)).trans hk_s))) rfl) (ct_Gate_checkWish_Latch_1 (t := t) (s := s) (m := m) (by omega) (by omega) ((congrArg cw_cl (sh_u2_row (by decide) _)).trans hk_s)) ⟨(Nat.le_of_ble_eq_true rfl), (Nat.le_of_ble_eq_true rfl), (Nat.le_of_ble_eq_true rfl), (Nat.le_of_ble_eq_true rfl)⟩ ?_
  show sh_cW _ _ (_, _, []) (sh_u2 K 2 t 0) L _ _ _ _ _
  refine sh_cp (fun w Z k => sh_aload dc_Hall_acquire_73 rfl k) ?_
  refine sh_cp (fun w Z k => sh_aload dc_Hall_acquire_75 rfl k) ?_
  refine sh_cp (fun w Z k => sh_iload_n dc_Hall_acquire_77 rfl rfl k) ?_
  refine sh_ccall (fun w hw => sh_virtU (As := [.ref (A (10 + t)), .int m]) dc_Hall_acquire_78 lm_Latch_mustQueue wd_541 wd_543 (Or.inl wd_542) ⟨by decide, by decide⟩ (by decide +kernel) wd_545 wd_544 rfl rfl (Nat.le_of_ble_eq_true rfl) (hw _ _ (cw_oa (by omega) ((congrArg cw_cl (sh_u2_row (by decide) _)).trans hk_s))) rfl) (cl_mq_Latch (s := s) (t := t) (m := m) (l := l) (by omega) (by omega) (cw_okr_up (by decide) ho) (cw_row_up (by decide) hr) hm ((congrArg cw_cl (sh_u2_row (by decide) _)).trans hk_s)) ⟨(Nat.le_of_ble_eq_true rfl), (Nat.le_of_ble_eq_true rfl), (Nat.le_of_ble_eq_true rfl), (Nat.le_of_ble_eq_true rfl)⟩ ?_
  show sh_cW _ _ (_, _, [.int (sp_b (sp_mq (sh_u2 K 2 t 0) t s m l))]) (sh_u2 K 2 t 0) L _ _ _ _ _
  refine sh_cp (fun w Z k => sh_if_ne (tgt := 111) dc_Hall_acquire_81 (by decide) (fun z => absurd c2_81 z) (fun _ => k)) ?_
  refine sh_cp (fun w Z k => sh_aload dc_Hall_acquire_84 rfl k) ?_
  refine sh_cp (fun w Z k => sh_aload dc_Hall_acquire_86 rfl k) ?_
  refine sh_cp (fun w Z k => sh_iload_n dc_Hall_acquire_88 rfl rfl k) ?_
  refine sh_ccall (fun w hw => sh_virtU (As := [.ref (A (10 + t)), .int m]) dc_Hall_acquire_89 lm_Latch_canTake wd_570 wd_572 (Or.inl wd_571) ⟨by decide, by decide⟩ (by decide +kernel) wd_574 wd_573 rfl rfl (Nat.le_of_ble_eq_true rfl) (hw _ _ (cw_oa (by omega) ((congrArg cw_cl (sh_u2_row (by decide) _)).trans hk_s))) rfl) (cl_can_Latch (s := s) (t := t) (m := m) (by omega) (by omega) (cw_okr_up (by decide) ho) hm ((congrArg cw_cl (sh_u2_row (by decide) _)).trans hk_s)) ⟨(Nat.le_of_ble_eq_true rfl), (Nat.le_of_ble_eq_true rfl), (Nat.le_of_ble_eq_true rfl), (Nat.le_of_ble_eq_true rfl)⟩ ?_
  show sh_cW _ _ (_, _, [.int (sp_b (sp_can (sh_u2 K 2 t 0) t s m))]) (sh_u2 K 2 t 0) L _ _ _ _ _
  refine sh_cp (fun w Z k => sh_if_eq (tgt := 111) dc_Hall_acquire_92 (by decide) (fun _ => k) (fun z => absurd c3_92 z)) ?_
  refine sh_cp (fun w Z k => sh_dload dc_Hall_acquire_111 rfl k) ?_
  refine sh_cp (fun w Z k => sh_dconst0 dc_Hall_acquire_113 k) ?_
  refine sh_cp (fun w Z k => sh_dcmp dc_Hall_acquire_114 k) ?_
  refine sh_cp (fun w Z k => sh_if_ne (tgt := 125) dc_Hall_acquire_115 (by decide) (fun z => absurd c4_115 z) (fun _ => k)) ?_
  refine sh_cp (fun w Z k => sh_aload dc_Hall_acquire_118 rfl k) ?_
  refine sh_cp (fun w Z k => sh_iconst (v := 2) dc_Hall_acquire_120 (by decide) k) ?_
  refine sh_ccall (fun w hw => sh_virt (As := [.int 2]) dc_Hall_acquire_121 lm_Worker_finish ln_Hall_89 wd_496 wd_6 rfl rfl (Nat.le_of_ble_eq_true rfl) (hw _ _ (cw_ow (by omega))) rfl) (ct_Worker_finish_1 (t := t) (x := 2) (by omega)) ⟨(Nat.le_of_ble_eq_true rfl), (Nat.le_of_ble_eq_true rfl), (Nat.le_of_ble_eq_true rfl), (Nat.le_of_ble_eq_true rfl)⟩ ?_
  show sh_cW _ _ (_, _, [.int 2]) (sh_u2 (sh_u2 (sh_u2 K 2 t 0) 4 t 2) 27 t 0) L _ _ _ _ _
  exact sh_ce (fun w => sh_ireturn dc_Hall_acquire_124 rfl rfl (by decide) (by decide))
theorem ct_Hall_acquire_Latch_2 {A : Nat → Nat} {K : sh_II} {L : sh_DD} {t : Nat} {s : Nat} {m : Int32} {y : UInt64} {l : List Nat} (ht : t < 6) (hs : s < 8) (hm : m = 0 ∨ m = 1) (hl1 : ¬ (Op.cmpValue (FP.dcmp y (FP.i2d (-1))) .l) < 0) (hl2 : (Op.cmpValue (FP.dcmp y (FP.i2d 1000)) .g) ≤ 0) (hp : (K 5 t) = -1) (ho : cw_okr K) (hr : cw_row K s l) (hlen : l.length < 6) (hk_s : cw_cl (K 12 s) = 6) (v0_43 : narrow .boolean (.int (K 2 t)) = .int (K 2 t)) (c1_46 : (K 2 t) = 0) (c2_81 : (sp_b (sp_mq (sh_u2 K 2 t 0) t s m l)) = 0) (c3_92 : (sp_b (sp_can (sh_u2 K 2 t 0) t s m)) = 0) (c4_115 : ¬ (Op.cmpValue (FP.dcmp y FP.dconst0) .l) = 0) (c5_157 : (Op.cmpValue (FP.dcmp y FP.dconst0) .l) ≤ 0) : sh_cM A md_Hall_acquire [.ref (A 0), .int (nI t), .int (nI s), .int m, .double y] K L (.inl (some (.int ((sp_enq (sh_u2 (sh_u2 (sh_u2 K 2 t 0) 9 t 1) 10 t 1) s t m l) 4 t)))) (sp_enq (sh_u2 (sh_u2 (sh_u2 K 2 t 0) 9 t 1) 10 t 1) s t m l) (sh_u2 L 8 t (L 11 0)) := by
  refine sh_cp (fun w Z k => sh_aload_n dc_Hall_acquire_0 rfl rfl k) ?_
  refine sh_cp (fun w Z k => sh_iload_n dc_Hall_acquire_1 rfl rfl k) ?_
  refine sh_ccall (fun w hw => sh_virt (As := [.int (nI t)]) dc_Hall_acquire_2 lm_Hall_workerAt ln_Hall_62 wd_448 wd_3 rfl rfl (Nat.le_of_ble_eq_true rfl) (hw _ _ cw_o0) rfl) (ct_Hall_workerAt_1 (t := t) (by omega)) ⟨(Nat.le_of_ble_eq_true rfl), (Nat.le_of_ble_eq_true rfl), (Nat.le_of_ble_eq_true rfl), (Nat.le_of_ble_eq_true rfl)⟩ ?_
  show sh_cW _ _ (_, _, [.ref (A (10 + t))]) K L _ _ _ _ _
  refine sh_cp (fun w Z k => sh_astore dc_Hall_acquire_5 (by decide) k) ?_
  refine sh_cp (fun w Z k => sh_iload_n dc_Hall_acquire_7 rfl rfl k) ?_
  refine sh_cp (fun w Z k => sh_iconst (v := 0) dc_Hall_acquire_8 (by decide) k) ?_
  refine sh_cp (fun w Z k => sh_iconst (v := 1) dc_Hall_acquire_9 (by decide) k) ?_
  refine sh_ccall (fun w hw => sh_stat (As := [.int m, .int 0, .int 1]) dc_Hall_acquire_10 lm_Hall_checkNumber ln_Hall_39 wd_191 wd_49 rfl rfl (Nat.le_of_ble_eq_true rfl)) (ct_Hall_checkNumber_2 (x := m) (lo := 0) (hi := 1) (sp_m0 hm) (sp_m1 hm)) ⟨(Nat.le_of_ble_eq_true rfl), (Nat.le_of_ble_eq_true rfl), (Nat.le_of_ble_eq_true rfl), (Nat.le_of_ble_eq_true rfl)⟩ ?_
  show sh_cW _ _ (_, _, []) K L _ _ _ _ _
  refine sh_cp (fun w Z k => sh_dload dc_Hall_acquire_13 rfl k) ?_
  refine sh_cp (fun w Z k => sh_iconst (v := (-1)) dc_Hall_acquire_15 (by decide) k) ?_
  refine sh_cp (fun w Z k => sh_sipush (v := 1000) dc_Hall_acquire_16 (by decide) k) ?_
  refine sh_ccall (fun w hw => sh_stat (As := [.double y, .int (-1), .int 1000]) dc_Hall_acquire_19 lm_Hall_checkAmount ln_Hall_66 wd_451 wd_49 rfl rfl (Nat.le_of_ble_eq_true rfl)) (ct_Hall_checkAmount_2 (x := y) (lo := (-1)) (hi := 1000) hl1 hl2) ⟨(Nat.le_of_ble_eq_true rfl), (Nat.le_of_ble_eq_true rfl), (Nat.le_of_ble_eq_true rfl), (Nat.le_of_ble_eq_true rfl)⟩ ?_
  show sh_cW _ _ (_, _, []) K L _ _ _ _ _
  refine sh_cp (fun w Z k => sh_aload_n dc_Hall_acquire_22 rfl rfl k) ?_
  refine sh_cp (fun w Z k => sh_iload_n dc_Hall_acquire_23 rfl rfl k) ?_
  refine sh_ccall (fun w hw => sh_virt (As := [.int (nI s)]) dc_Hall_acquire_24 lm_Hall_syncAt ln_Hall_73 wd_272 wd_2 rfl rfl (Nat.le_of_ble_eq_true rfl) (hw _ _ cw_o0) rfl) (ct_Hall_syncAt_2 (s := s) (by omega) (cw_nz hk_s (by decide))) ⟨(Nat.le_of_ble_eq_true rfl), (Nat.le_of_ble_eq_true rfl), (Nat.le_of_ble_eq_true rfl), (Nat.le_of_ble_eq_true rfl)⟩ ?_
  show sh_cW _ _ (_, _, [.ref (A (20 + s))]) K L _ _ _ _ _
  refine sh_cp (fun w Z k => sh_astore dc_Hall_acquire_27 (by decide) k) ?_
  refine sh_cp (fun w Z k => sh_aload dc_Hall_acquire_29 rfl k) ?_
  refine sh_ccall (fun w hw => sh_stat (As := [.ref (A (10 + t))]) dc_Hall_acquire_31 lm_Hall_checkRunning ln_Hall_77 wd_463 wd_49 rfl rfl (Nat.le_of_ble_eq_true rfl)) (ct_Hall_checkRunning_1 (t := t) (by omega) hp) ⟨(Nat.le_of_ble_eq_true rfl), (Nat.le_of_ble_eq_true rfl), (Nat.le_of_ble_eq_true rfl), (Nat.le_of_ble_eq_true rfl)⟩ ?_
  show sh_cW _ _ (_, _, []) K L _ _ _ _ _
  refine sh_cp (fun w Z k => sh_aload dc_Hall_acquire_34 rfl k) ?_
  refine sh_ccall (fun w hw => sh_stat (As := [.ref (A (20 + s))]) dc_Hall_acquire_36 lm_Hall_gateOf ln_Hall_81 wd_471 wd_49 rfl rfl (Nat.le_of_ble_eq_true rfl)) (ct_Hall_gateOf_Latch_1 (s := s) (by omega) hk_s) ⟨(Nat.le_of_ble_eq_true rfl), (Nat.le_of_ble_eq_true rfl), (Nat.le_of_ble_eq_true rfl), (Nat.le_of_ble_eq_true rfl)⟩ ?_
  show sh_cW _ _ (_, _, [.ref (A (20 + s))]) K L _ _ _ _ _
  refine sh_cp (fun w Z k => sh_astore dc_Hall_acquire_39 (by decide) k) ?_
  refine sh_cp (fun w Z k => sh_aload dc_Hall_acquire_41 rfl k) ?_
  refine sh_ccall (fun w hw => sh_virt (As := []) dc_Hall_acquire_43 lm_Worker_dropFlag ln_Hall_85 wd_492 wd_5 rfl rfl (Nat.le_of_ble_eq_true rfl) (hw _ _ (cw_ow (by omega))) rfl) (ct_Worker_dropFlag_1 (t := t) (by omega) v0_43) ⟨(Nat.le_of_ble_eq_true rfl), (Nat.le_of_ble_eq_true rfl), (Nat.le_of_ble_eq_true rfl), (Nat.le_of_ble_eq_true rfl)⟩ ?_
  show sh_cW _ _ (_, _, [.int (K 2 t)]) (sh_u2 K 2 t 0) L _ _ _ _ _
  refine sh_cp (fun w Z k => sh_if_eq (tgt := 56) dc_Hall_acquire_46 (by decide) (fun _ => k) (fun z => absurd c1_46 z)) ?_
  refine sh_cp (fun w Z k => sh_aload_n dc_Hall_acquire_56 rfl rfl k) ?_
  refine sh_cp (fun w Z k => sh_aload dc_Hall_acquire_57 rfl k) ?_
  refine sh_cp (fun w Z k => sh_aload dc_Hall_acquire_59 rfl k) ?_
  refine sh_cp (fun w Z k => sh_iload_n dc_Hall_acquire_61 rfl rfl k) ?_
  refine sh_ccall (fun w hw => sh_virt (As := [.ref (A (10 + t)), .ref (A (20 + s)), .int (nI s)]) dc_Hall_acquire_62 lm_Hall_keepOrder ln_Hall_92 wd_500 wd_7 rfl rfl (Nat.le_of_ble_eq_true rfl) (hw _ _ cw_o0) rfl) (cl_kon_Latch (t := t) (s := s) (by omega) (by omega) (cw_okr_up (by decide) ho) ((congrArg cw_cl (sh_u2_row (by decide) _)).trans hk_s)) ⟨(Nat.le_of_ble_eq_true rfl), (Nat.le_of_ble_eq_true rfl), (Nat.le_of_ble_eq_true rfl), (Nat.le_of_ble_eq_true rfl)⟩ ?_
  show sh_cW _ _ (_, _, []) (sh_u2 K 2 t 0) L _ _ _ _ _
  refine sh_cp (fun w Z k => sh_aload dc_Hall_acquire_65 rfl k) ?_
  refine sh_cp (fun w Z k => sh_aload dc_Hall_acquire_67 rfl k) ?_
  refine sh_cp (fun w Z k => sh_iload_n dc_Hall_acquire_69 rfl rfl k) ?_
  refine sh_ccall (fun w hw => sh_virtU (As := [.ref (A (10 + t)), .int m]) dc_Hall_acquire_70 lm_Gate_checkWish wd_528 wd_530 (Or.inr ⟨_, _, _, wd_529, wd_540⟩) ⟨by decide, by decide⟩ (by decide +kernel) wd_529 wd_531 rfl rfl (Nat.le_of_ble_eq_true rfl) (hw _ _ (cw_oa (by omega) ((congrArg cw_cl (sh_u2_row (by decide) _)).trans hk_s))) rfl) (ct_Gate_checkWish_Latch_1 (t := t) (s := s) (m := m) (by omega) (by omega) ((congrArg cw_cl (sh_u2_row (by decide) _)).trans hk_s)) ⟨(Nat.le_of_ble_eq_true rfl), (Nat.le_of_ble_eq_true rfl), (Nat.le_of_ble_eq_true rfl), (Nat.le_of_ble_eq_true rfl)⟩ ?_
  show sh_cW _ _ (_, _, []) (sh_u2 K 2 t 0) L _ _ _ _ _
  refine sh_cp (fun w Z k => sh_aload dc_Hall_acquire_73 rfl k) ?_
  refine sh_cp (fun w Z k => sh_aload dc_Hall_acquire_75 rfl k) ?_
  refine sh_cp (fun w Z k => sh_iload_n dc_Hall_acquire_77 rfl rfl k) ?_
  refine sh_ccall (fun w hw => sh_virtU (As := [.ref (A (10 + t)), .int m]) dc_Hall_acquire_78 lm_Latch_mustQueue wd_541 wd_543 (Or.inl wd_542) ⟨by decide, by decide⟩ (by decide +kernel) wd_545 wd_544 rfl rfl (Nat.le_of_ble_eq_true rfl) (hw _ _ (cw_oa (by omega) ((congrArg cw_cl (sh_u2_row (by decide) _)).trans hk_s))) rfl) (cl_mq_Latch (s := s) (t := t) (m := m) (l := l) (by omega) (by omega) (cw_okr_up (by decide) ho) (cw_row_up (by decide) hr) hm ((congrArg cw_cl (sh_u2_row (by decide) _)).trans hk_s)) ⟨(Nat.le_of_ble_eq_true rfl), (Nat.le_of_ble_eq_true rfl), (Nat.le_of_ble_eq_true rfl), (Nat.le_of_ble_eq_true rfl)⟩ ?_
  show sh_cW _ _ (_, _, [.int (sp_b (sp_mq (sh_u2 K 2 t 0) t s m l))]) (sh_u2 K 2 t 0) L _ _ _ _ _
  refine sh_cp (fun w Z k => sh_if_ne (tgt := 111) dc_Hall_acquire_81 (by decide) (fun z => absurd c2_81 z) (fun _ => k)) ?_
  refine sh_cp (fun w Z k => sh_aload dc_Hall_acquire_84 rfl k) ?_
  refine sh_cp (fun w Z k => sh_aload dc_Hall_acquire_86 rfl k) ?_
  refine sh_cp (fun w Z k => sh_iload_n dc_Hall_acquire_88 rfl rfl k) ?_
  refine sh_ccall (fun w hw => sh_virtU (As := [.ref (A (10 + t)), .int m]) dc_Hall_acquire_89 lm_Latch_canTake wd_570 wd_572 (Or.inl wd_571) ⟨by decide, by decide⟩ (by decide +kernel) wd_574 wd_573 rfl rfl (Nat.le_of_ble_eq_true rfl) (hw _ _ (cw_oa (by omega) ((congrArg cw_cl (sh_u2_row (by decide) _)).trans hk_s))) rfl) (cl_can_Latch (s := s) (t := t) (m := m) (by omega) (by omega) (cw_okr_up (by decide) ho) hm ((congrArg cw_cl (sh_u2_row (by decide) _)).trans hk_s)) ⟨(Nat.le_of_ble_eq_true rfl), (Nat.le_of_ble_eq_true rfl), (Nat.le_of_ble_eq_true rfl), (Nat.le_of_ble_eq_true rfl)⟩ ?_
  show sh_cW _ _ (_, _, [.int (sp_b (sp_can (sh_u2 K 2 t 0) t s m))]) (sh_u2 K 2 t 0) L _ _ _ _ _
  refine sh_cp (fun w Z k => sh_if_eq (tgt := 111) dc_Hall_acquire_92 (by decide) (fun _ => k) (fun z => absurd c3_92 z)) ?_
  refine sh_cp (fun w Z k => sh_dload dc_Hall_acquire_111 rfl k) ?_
  refine sh_cp (fun w Z k => sh_dconst0 dc_Hall_acquire_113 k) ?_
  refine sh_cp (fun w Z k => sh_dcmp dc_Hall_acquire_114 k) ?_
  refine sh_cp (fun w Z k => sh_if_ne (tgt := 125) dc_Hall_acquire_115 (by decide) (fun _ => k) (fun z => absurd z c4_115)) ?_
  refine sh_cp (fun w Z k => sh_aload dc_Hall_acquire_125 rfl k) ?_
  refine sh_cp (fun w Z k => sh_iconst (v := 1) dc_Hall_acquire_127 (by decide) k) ?_
  refine sh_cput (K1 := (sh_u2 (sh_u2 K 2 t 0) 9 t 1)) (L1 := L) (10 + t) 9 dc_Hall_acquire_128 (cw_ow (by omega)) rfl (by decide) fl_Hall_113 rfl rfl rfl rfl pd_I rfl rfl (cq_Worker_9 (by omega)) (fun i hi => cw_upI (by decide) hi) ?_
  refine sh_cp (fun w Z k => sh_aload dc_Hall_acquire_131 rfl k) ?_
  refine sh_cp (fun w Z k => sh_iconst (v := 1) dc_Hall_acquire_133 (by decide) k) ?_
  refine sh_cput (K1 := (sh_u2 (sh_u2 (sh_u2 K 2 t 0) 9 t 1) 10 t 1)) (L1 := L) (10 + t) 10 dc_Hall_acquire_134 (cw_ow (by omega)) rfl (by decide) fl_Hall_116 rfl rfl rfl rfl pd_I rfl rfl (cq_Worker_10 (by omega)) (fun i hi => cw_upI (by decide) hi) ?_
  refine sh_cp (fun w Z k => sh_aload dc_Hall_acquire_137 rfl k) ?_
  refine sh_cp (fun w Z k => sh_aload dc_Hall_acquire_139 rfl k) ?_
  refine sh_cp (fun w Z k => sh_iload_n dc_Hall_acquire_141 rfl rfl k) ?_
  refine sh_cp (fun w Z k => sh_aload_n dc_Hall_acquire_142 rfl rfl k) ?_
  refine sh_cget 0 4 dc_Hall_acquire_143 cw_o0 rfl (by decide) fl_Hall_35 rfl rfl rfl rfl ?_
  refine sh_ccall (fun w hw => sh_virtU (As := [.ref (A (10 + t)), .int m, .double (L 11 0)]) dc_Hall_acquire_146 lm_Sync_enqueue wd_604 wd_605 (Or.inl wd_606) ⟨by decide, by decide⟩ (by decide +kernel) wd_611 wd_607 rfl rfl (Nat.le_of_ble_eq_true rfl) (hw _ _ (cw_oa (by omega) ((congrArg cw_cl (Eq.trans (sh_u2_row (by decide) _) (Eq.trans (sh_u2_row (by decide) _) (sh_u2_row (by decide) _)))).trans hk_s))) rfl) (cl_enq_Latch (s := s) (t := t) (m := m) (a := L 11 0) (l := l) (by omega) (by omega) (cw_row_up (by decide) (cw_row_up (by decide) (cw_row_up (by decide) hr))) hlen ((congrArg cw_cl (Eq.trans (sh_u2_row (by decide) _) (Eq.trans (sh_u2_row (by decide) _) (sh_u2_row (by decide) _)))).trans hk_s)) ⟨(Nat.le_of_ble_eq_true rfl), (Nat.le_of_ble_eq_true rfl), (Nat.le_of_ble_eq_true rfl), (Nat.le_of_ble_eq_true rfl)⟩ ?_
  show sh_cW _ _ (_, _, []) (sp_enq (sh_u2 (sh_u2 (sh_u2 K 2 t 0) 9 t 1) 10 t 1) s t m l) (sh_u2 L 8 t (L 11 0)) _ _ _ _ _
  refine sh_cp (fun w Z k => sh_aload dc_Hall_acquire_149 rfl k) ?_
  refine sh_cp (fun w Z k => sh_aload_n dc_Hall_acquire_151 rfl rfl k) ?_
  refine sh_cget 0 4 dc_Hall_acquire_152 cw_o0 rfl (by decide) fl_Hall_35 rfl rfl rfl rfl ?_
  refine sh_ctd (show (sh_u2 L 8 t (L 11 0)) 11 0 = L 11 0 from (sh_u2_row (by decide) _)) ?_
  refine sh_cp (fun w Z k => sh_dload dc_Hall_acquire_155 rfl k) ?_
  refine sh_ccall (fun w hw => sh_virt (As := [.double (L 11 0), .double y]) dc_Hall_acquire_157 lm_Worker_setEnd ln_Hall_123 wd_619 wd_17 rfl rfl (Nat.le_of_ble_eq_true rfl) (hw _ _ (cw_ow (by omega))) rfl) (ct_Worker_setEnd_1 (t := t) (a := L 11 0) (b := y) (by omega) c5_157) ⟨(Nat.le_of_ble_eq_true rfl), (Nat.le_of_ble_eq_true rfl), (Nat.le_of_ble_eq_true rfl), (Nat.le_of_ble_eq_true rfl)⟩ ?_
  show sh_cW _ _ (_, _, []) (sp_enq (sh_u2 (sh_u2 (sh_u2 K 2 t 0) 9 t 1) 10 t 1) s t m l) (sh_u2 L 8 t (L 11 0)) _ _ _ _ _
  refine sh_cp (fun w Z k => sh_aload dc_Hall_acquire_160 rfl k) ?_
  refine sh_cget (10 + t) 3 dc_Hall_acquire_162 (cw_ow (by omega)) rfl (by decide) fl_Hall_127 rfl rfl rfl rfl ?_
  exact sh_ce (fun w => sh_ireturn dc_Hall_acquire_165 rfl rfl (by decide) (by decide))
theorem ct_Hall_acquire_Latch_3 {A : Nat → Nat} {K : sh_II} {L : sh_DD} {t : Nat} {s : Nat} {m : Int32} {y : UInt64} {l : List Nat} (ht : t < 6) (hs : s < 8) (hm : m = 0 ∨ m = 1) (hl1 : ¬ (Op.cmpValue (FP.dcmp y (FP.i2d (-1))) .l) < 0) (hl2 : (Op.cmpValue (FP.dcmp y (FP.i2d 1000)) .g) ≤ 0) (hp : (K 5 t) = -1) (ho : cw_okr K) (hr : cw_row K s l) (hlen : l.length < 6) (hk_s : cw_cl (K 12 s) = 6) (v0_43 : narrow .boolean (.int (K 2 t)) = .int (K 2 t)) (c1_46 : (K 2 t) = 0) (c2_81 : (sp_b (sp_mq (sh_u2 K 2 t 0) t s m l)) = 0) (c3_92 : (sp_b (sp_can (sh_u2 K 2 t 0) t s m)) = 0) (c4_115 : ¬ (Op.cmpValue (FP.dcmp y FP.dconst0) .l) = 0) (c5_157 : ¬ (Op.cmpValue (FP.dcmp y FP.dconst0) .l) ≤ 0) (v6_157 : vf_n64 (FP.dadd (L 11 0) y)) : sh_cM A md_Hall_acquire [.ref (A 0), .int (nI t), .int (nI s), .int m, .double y] K L (.inl (some (.int ((sh_u2 (sp_enq (sh_u2 (sh_u2 (sh_u2 K 2 t 0) 9 t 1) 10 t 1) s t m l) 26 t 1) 4 t)))) (sh_u2 (sp_enq (sh_u2 (sh_u2 (sh_u2 K 2 t 0) 9 t 1) 10 t 1) s t m l) 26 t 1) (sh_u2 (sh_u2 L 8 t (L 11 0)) 7 t (FP.dadd (L 11 0) y)) := by
  refine sh_cp (fun w Z k => sh_aload_n dc_Hall_acquire_0 rfl rfl k) ?_
  refine sh_cp (fun w Z k => sh_iload_n dc_Hall_acquire_1 rfl rfl k) ?_
  refine sh_ccall (fun w hw => sh_virt (As := [.int (nI t)]) dc_Hall_acquire_2 lm_Hall_workerAt ln_Hall_62 wd_448 wd_3 rfl rfl (Nat.le_of_ble_eq_true rfl) (hw _ _ cw_o0) rfl) (ct_Hall_workerAt_1 (t := t) (by omega)) ⟨(Nat.le_of_ble_eq_true rfl), (Nat.le_of_ble_eq_true rfl), (Nat.le_of_ble_eq_true rfl), (Nat.le_of_ble_eq_true rfl)⟩ ?_
  show sh_cW _ _ (_, _, [.ref (A (10 + t))]) K L _ _ _ _ _
  refine sh_cp (fun w Z k => sh_astore dc_Hall_acquire_5 (by decide) k) ?_
  refine sh_cp (fun w Z k => sh_iload_n dc_Hall_acquire_7 rfl rfl k) ?_
  refine sh_cp (fun w Z k => sh_iconst (v := 0) dc_Hall_acquire_8 (by decide) k) ?_
  refine sh_cp (fun w Z k => sh_iconst (v := 1) dc_Hall_acquire_9 (by decide) k) ?_
  refine sh_ccall (fun w hw => sh_stat (As := [.int m, .int 0, .int 1]) dc_Hall_acquire_10 lm_Hall_checkNumber ln_Hall_39 wd_191 wd_49 rfl rfl (Nat.le_of_ble_eq_true rfl)) (ct_Hall_checkNumber_2 (x := m) (lo := 0) (hi := 1) (sp_m0 hm) (sp_m1 hm)) ⟨(Nat.le_of_ble_eq_true rfl), (Nat.le_of_ble_eq_true rfl), (Nat.le_of_ble_eq_true rfl), (Nat.le_of_ble_eq_true rfl)⟩ ?_
  show sh_cW _ _ (_, _, []) K L _ _ _ _ _
  refine sh_cp (fun w Z k => sh_dload dc_Hall_acquire_13 rfl k) ?_
  refine sh_cp (fun w Z k => sh_iconst (v := (-1)) dc_Hall_acquire_15 (by decide) k) ?_
  refine sh_cp (fun w Z k => sh_sipush (v := 1000) dc_Hall_acquire_16 (by decide) k) ?_
  refine sh_ccall (fun w hw => sh_stat (As := [.double y, .int (-1), .int 1000]) dc_Hall_acquire_19 lm_Hall_checkAmount ln_Hall_66 wd_451 wd_49 rfl rfl (Nat.le_of_ble_eq_true rfl)) (ct_Hall_checkAmount_2 (x := y) (lo := (-1)) (hi := 1000) hl1 hl2) ⟨(Nat.le_of_ble_eq_true rfl), (Nat.le_of_ble_eq_true rfl), (Nat.le_of_ble_eq_true rfl), (Nat.le_of_ble_eq_true rfl)⟩ ?_
  show sh_cW _ _ (_, _, []) K L _ _ _ _ _
  refine sh_cp (fun w Z k => sh_aload_n dc_Hall_acquire_22 rfl rfl k) ?_
  refine sh_cp (fun w Z k => sh_iload_n dc_Hall_acquire_23 rfl rfl k) ?_
  refine sh_ccall (fun w hw => sh_virt (As := [.int (nI s)]) dc_Hall_acquire_24 lm_Hall_syncAt ln_Hall_73 wd_272 wd_2 rfl rfl (Nat.le_of_ble_eq_true rfl) (hw _ _ cw_o0) rfl) (ct_Hall_syncAt_2 (s := s) (by omega) (cw_nz hk_s (by decide))) ⟨(Nat.le_of_ble_eq_true rfl), (Nat.le_of_ble_eq_true rfl), (Nat.le_of_ble_eq_true rfl), (Nat.le_of_ble_eq_true rfl)⟩ ?_
  show sh_cW _ _ (_, _, [.ref (A (20 + s))]) K L _ _ _ _ _
  refine sh_cp (fun w Z k => sh_astore dc_Hall_acquire_27 (by decide) k) ?_
  refine sh_cp (fun w Z k => sh_aload dc_Hall_acquire_29 rfl k) ?_
  refine sh_ccall (fun w hw => sh_stat (As := [.ref (A (10 + t))]) dc_Hall_acquire_31 lm_Hall_checkRunning ln_Hall_77 wd_463 wd_49 rfl rfl (Nat.le_of_ble_eq_true rfl)) (ct_Hall_checkRunning_1 (t := t) (by omega) hp) ⟨(Nat.le_of_ble_eq_true rfl), (Nat.le_of_ble_eq_true rfl), (Nat.le_of_ble_eq_true rfl), (Nat.le_of_ble_eq_true rfl)⟩ ?_
  show sh_cW _ _ (_, _, []) K L _ _ _ _ _
  refine sh_cp (fun w Z k => sh_aload dc_Hall_acquire_34 rfl k) ?_
  refine sh_ccall (fun w hw => sh_stat (As := [.ref (A (20 + s))]) dc_Hall_acquire_36 lm_Hall_gateOf ln_Hall_81 wd_471 wd_49 rfl rfl (Nat.le_of_ble_eq_true rfl)) (ct_Hall_gateOf_Latch_1 (s := s) (by omega) hk_s) ⟨(Nat.le_of_ble_eq_true rfl), (Nat.le_of_ble_eq_true rfl), (Nat.le_of_ble_eq_true rfl), (Nat.le_of_ble_eq_true rfl)⟩ ?_
  show sh_cW _ _ (_, _, [.ref (A (20 + s))]) K L _ _ _ _ _
  refine sh_cp (fun w Z k => sh_astore dc_Hall_acquire_39 (by decide) k) ?_
  refine sh_cp (fun w Z k => sh_aload dc_Hall_acquire_41 rfl k) ?_
  refine sh_ccall (fun w hw => sh_virt (As := []) dc_Hall_acquire_43 lm_Worker_dropFlag ln_Hall_85 wd_492 wd_5 rfl rfl (Nat.le_of_ble_eq_true rfl) (hw _ _ (cw_ow (by omega))) rfl) (ct_Worker_dropFlag_1 (t := t) (by omega) v0_43) ⟨(Nat.le_of_ble_eq_true rfl), (Nat.le_of_ble_eq_true rfl), (Nat.le_of_ble_eq_true rfl), (Nat.le_of_ble_eq_true rfl)⟩ ?_
  show sh_cW _ _ (_, _, [.int (K 2 t)]) (sh_u2 K 2 t 0) L _ _ _ _ _
  refine sh_cp (fun w Z k => sh_if_eq (tgt := 56) dc_Hall_acquire_46 (by decide) (fun _ => k) (fun z => absurd c1_46 z)) ?_
  refine sh_cp (fun w Z k => sh_aload_n dc_Hall_acquire_56 rfl rfl k) ?_
  refine sh_cp (fun w Z k => sh_aload dc_Hall_acquire_57 rfl k) ?_
  refine sh_cp (fun w Z k => sh_aload dc_Hall_acquire_59 rfl k) ?_
  refine sh_cp (fun w Z k => sh_iload_n dc_Hall_acquire_61 rfl rfl k) ?_
  refine sh_ccall (fun w hw => sh_virt (As := [.ref (A (10 + t)), .ref (A (20 + s)), .int (nI s)]) dc_Hall_acquire_62 lm_Hall_keepOrder ln_Hall_92 wd_500 wd_7 rfl rfl (Nat.le_of_ble_eq_true rfl) (hw _ _ cw_o0) rfl) (cl_kon_Latch (t := t) (s := s) (by omega) (by omega) (cw_okr_up (by decide) ho) ((congrArg cw_cl (sh_u2_row (by decide) _)).trans hk_s)) ⟨(Nat.le_of_ble_eq_true rfl), (Nat.le_of_ble_eq_true rfl), (Nat.le_of_ble_eq_true rfl), (Nat.le_of_ble_eq_true rfl)⟩ ?_
  show sh_cW _ _ (_, _, []) (sh_u2 K 2 t 0) L _ _ _ _ _
  refine sh_cp (fun w Z k => sh_aload dc_Hall_acquire_65 rfl k) ?_
  refine sh_cp (fun w Z k => sh_aload dc_Hall_acquire_67 rfl k) ?_
  refine sh_cp (fun w Z k => sh_iload_n dc_Hall_acquire_69 rfl rfl k) ?_
  refine sh_ccall (fun w hw => sh_virtU (As := [.ref (A (10 + t)), .int m]) dc_Hall_acquire_70 lm_Gate_checkWish wd_528 wd_530 (Or.inr ⟨_, _, _, wd_529, wd_540⟩) ⟨by decide, by decide⟩ (by decide +kernel) wd_529 wd_531 rfl rfl (Nat.le_of_ble_eq_true rfl) (hw _ _ (cw_oa (by omega) ((congrArg cw_cl (sh_u2_row (by decide) _)).trans hk_s))) rfl) (ct_Gate_checkWish_Latch_1 (t := t) (s := s) (m := m) (by omega) (by omega) ((congrArg cw_cl (sh_u2_row (by decide) _)).trans hk_s)) ⟨(Nat.le_of_ble_eq_true rfl), (Nat.le_of_ble_eq_true rfl), (Nat.le_of_ble_eq_true rfl), (Nat.le_of_ble_eq_true rfl)⟩ ?_
  show sh_cW _ _ (_, _, []) (sh_u2 K 2 t 0) L _ _ _ _ _
  refine sh_cp (fun w Z k => sh_aload dc_Hall_acquire_73 rfl k) ?_
  refine sh_cp (fun w Z k => sh_aload dc_Hall_acquire_75 rfl k) ?_
  refine sh_cp (fun w Z k => sh_iload_n dc_Hall_acquire_77 rfl rfl k) ?_
  refine sh_ccall (fun w hw => sh_virtU (As := [.ref (A (10 + t)), .int m]) dc_Hall_acquire_78 lm_Latch_mustQueue wd_541 wd_543 (Or.inl wd_542) ⟨by decide, by decide⟩ (by decide +kernel) wd_545 wd_544 rfl rfl (Nat.le_of_ble_eq_true rfl) (hw _ _ (cw_oa (by omega) ((congrArg cw_cl (sh_u2_row (by decide) _)).trans hk_s))) rfl) (cl_mq_Latch (s := s) (t := t) (m := m) (l := l) (by omega) (by omega) (cw_okr_up (by decide) ho) (cw_row_up (by decide) hr) hm ((congrArg cw_cl (sh_u2_row (by decide) _)).trans hk_s)) ⟨(Nat.le_of_ble_eq_true rfl), (Nat.le_of_ble_eq_true rfl), (Nat.le_of_ble_eq_true rfl), (Nat.le_of_ble_eq_true rfl)⟩ ?_
  show sh_cW _ _ (_, _, [.int (sp_b (sp_mq (sh_u2 K 2 t 0) t s m l))]) (sh_u2 K 2 t 0) L _ _ _ _ _
  refine sh_cp (fun w Z k => sh_if_ne (tgt := 111) dc_Hall_acquire_81 (by decide) (fun z => absurd c2_81 z) (fun _ => k)) ?_
  refine sh_cp (fun w Z k => sh_aload dc_Hall_acquire_84 rfl k) ?_
  refine sh_cp (fun w Z k => sh_aload dc_Hall_acquire_86 rfl k) ?_
  refine sh_cp (fun w Z k => sh_iload_n dc_Hall_acquire_88 rfl rfl k) ?_
  refine sh_ccall (fun w hw => sh_virtU (As := [.ref (A (10 + t)), .int m]) dc_Hall_acquire_89 lm_Latch_canTake wd_570 wd_572 (Or.inl wd_571) ⟨by decide, by decide⟩ (by decide +kernel) wd_574 wd_573 rfl rfl (Nat.le_of_ble_eq_true rfl) (hw _ _ (cw_oa (by omega) ((congrArg cw_cl (sh_u2_row (by decide) _)).trans hk_s))) rfl) (cl_can_Latch (s := s) (t := t) (m := m) (by omega) (by omega) (cw_okr_up (by decide) ho) hm ((congrArg cw_cl (sh_u2_row (by decide) _)).trans hk_s)) ⟨(Nat.le_of_ble_eq_true rfl), (Nat.le_of_ble_eq_true rfl), (Nat.le_of_ble_eq_true rfl), (Nat.le_of_ble_eq_true rfl)⟩ ?_
  show sh_cW _ _ (_, _, [.int (sp_b (sp_can (sh_u2 K 2 t 0) t s m))]) (sh_u2 K 2 t 0) L _ _ _ _ _
  refine sh_cp (fun w Z k => sh_if_eq (tgt := 111) dc_Hall_acquire_92 (by decide) (fun _ => k) (fun z => absurd c3_92 z)) ?_
  refine sh_cp (fun w Z k => sh_dload dc_Hall_acquire_111 rfl k) ?_
  refine sh_cp (fun w Z k => sh_dconst0 dc_Hall_acquire_113 k) ?_
  refine sh_cp (fun w Z k => sh_dcmp dc_Hall_acquire_114 k) ?_
  refine sh_cp (fun w Z k => sh_if_ne (tgt := 125) dc_Hall_acquire_115 (by decide) (fun _ => k) (fun z => absurd z c4_115)) ?_
  refine sh_cp (fun w Z k => sh_aload dc_Hall_acquire_125 rfl k) ?_
  refine sh_cp (fun w Z k => sh_iconst (v := 1) dc_Hall_acquire_127 (by decide) k) ?_
  refine sh_cput (K1 := (sh_u2 (sh_u2 K 2 t 0) 9 t 1)) (L1 := L) (10 + t) 9 dc_Hall_acquire_128 (cw_ow (by omega)) rfl (by decide) fl_Hall_113 rfl rfl rfl rfl pd_I rfl rfl (cq_Worker_9 (by omega)) (fun i hi => cw_upI (by decide) hi) ?_
  refine sh_cp (fun w Z k => sh_aload dc_Hall_acquire_131 rfl k) ?_
  refine sh_cp (fun w Z k => sh_iconst (v := 1) dc_Hall_acquire_133 (by decide) k) ?_
  refine sh_cput (K1 := (sh_u2 (sh_u2 (sh_u2 K 2 t 0) 9 t 1) 10 t 1)) (L1 := L) (10 + t) 10 dc_Hall_acquire_134 (cw_ow (by omega)) rfl (by decide) fl_Hall_116 rfl rfl rfl rfl pd_I rfl rfl (cq_Worker_10 (by omega)) (fun i hi => cw_upI (by decide) hi) ?_
  refine sh_cp (fun w Z k => sh_aload dc_Hall_acquire_137 rfl k) ?_
  refine sh_cp (fun w Z k => sh_aload dc_Hall_acquire_139 rfl k) ?_
  refine sh_cp (fun w Z k => sh_iload_n dc_Hall_acquire_141 rfl rfl k) ?_
  refine sh_cp (fun w Z k => sh_aload_n dc_Hall_acquire_142 rfl rfl k) ?_
  refine sh_cget 0 4 dc_Hall_acquire_143 cw_o0 rfl (by decide) fl_Hall_35 rfl rfl rfl rfl ?_
  refine sh_ccall (fun w hw => sh_virtU (As := [.ref (A (10 + t)), .int m, .double (L 11 0)]) dc_Hall_acquire_146 lm_Sync_enqueue wd_604 wd_605 (Or.inl wd_606) ⟨by decide, by decide⟩ (by decide +kernel) wd_611 wd_607 rfl rfl (Nat.le_of_ble_eq_true rfl) (hw _ _ (cw_oa (by omega) ((congrArg cw_cl (Eq.trans (sh_u2_row (by decide) _) (Eq.trans (sh_u2_row (by decide) _) (sh_u2_row (by decide) _)))).trans hk_s))) rfl) (cl_enq_Latch (s := s) (t := t) (m := m) (a := L 11 0) (l := l) (by omega) (by omega) (cw_row_up (by decide) (cw_row_up (by decide) (cw_row_up (by decide) hr))) hlen ((congrArg cw_cl (Eq.trans (sh_u2_row (by decide) _) (Eq.trans (sh_u2_row (by decide) _) (sh_u2_row (by decide) _)))).trans hk_s)) ⟨(Nat.le_of_ble_eq_true rfl), (Nat.le_of_ble_eq_true rfl), (Nat.le_of_ble_eq_true rfl), (Nat.le_of_ble_eq_true rfl)⟩ ?_
  show sh_cW _ _ (_, _, []) (sp_enq (sh_u2 (sh_u2 (sh_u2 K 2 t 0) 9 t 1) 10 t 1) s t m l) (sh_u2 L 8 t (L 11 0)) _ _ _ _ _
  refine sh_cp (fun w Z k => sh_aload dc_Hall_acquire_149 rfl k) ?_
  refine sh_cp (fun w Z k => sh_aload_n dc_Hall_acquire_151 rfl rfl k) ?_
  refine sh_cget 0 4 dc_Hall_acquire_152 cw_o0 rfl (by decide) fl_Hall_35 rfl rfl rfl rfl ?_
  refine sh_ctd (show (sh_u2 L 8 t (L 11 0)) 11 0 = L 11 0 from (sh_u2_row (by decide) _)) ?_
  refine sh_cp (fun w Z k => sh_dload dc_Hall_acquire_155 rfl k) ?_
  refine sh_ccall (fun w hw => sh_virt (As := [.double (L 11 0), .double y]) dc_Hall_acquire_157 lm_Worker_setEnd ln_Hall_123 wd_619 wd_17 rfl rfl (Nat.le_of_ble_eq_true rfl) (hw _ _ (cw_ow (by omega))) rfl) (ct_Worker_setEnd_2 (t := t) (a := L 11 0) (b := y) (by omega) c5_157 v6_157) ⟨(Nat.le_of_ble_eq_true rfl), (Nat.le_of_ble_eq_true rfl), (Nat.le_of_ble_eq_true rfl), (Nat.le_of_ble_eq_true rfl)⟩ ?_
  show sh_cW _ _ (_, _, []) (sh_u2 (sp_enq (sh_u2 (sh_u2 (sh_u2 K 2 t 0) 9 t 1) 10 t 1) s t m l) 26 t 1) (sh_u2 (sh_u2 L 8 t (L 11 0)) 7 t (FP.dadd (L 11 0) y)) _ _ _ _ _
  refine sh_cp (fun w Z k => sh_aload dc_Hall_acquire_160 rfl k) ?_
  refine sh_cget (10 + t) 3 dc_Hall_acquire_162 (cw_ow (by omega)) rfl (by decide) fl_Hall_127 rfl rfl rfl rfl ?_
  exact sh_ce (fun w => sh_ireturn dc_Hall_acquire_165 rfl rfl (by decide) (by decide))
theorem ct_Hall_acquire_Latch_4 {A : Nat → Nat} {K : sh_II} {L : sh_DD} {t : Nat} {s : Nat} {m : Int32} {y : UInt64} {l : List Nat} (ht : t < 6) (hs : s < 8) (hm : m = 0 ∨ m = 1) (hl1 : ¬ (Op.cmpValue (FP.dcmp y (FP.i2d (-1))) .l) < 0) (hl2 : (Op.cmpValue (FP.dcmp y (FP.i2d 1000)) .g) ≤ 0) (hp : (K 5 t) = -1) (ho : cw_okr K) (hr : cw_row K s l) (hlen : l.length < 6) (hk_s : cw_cl (K 12 s) = 6) (v0_43 : narrow .boolean (.int (K 2 t)) = .int (K 2 t)) (c1_46 : (K 2 t) = 0) (c2_81 : (sp_b (sp_mq (sh_u2 K 2 t 0) t s m l)) = 0) (c3_92 : ¬ (sp_b (sp_can (sh_u2 K 2 t 0) t s m)) = 0) : sh_cM A md_Hall_acquire [.ref (A 0), .int (nI t), .int (nI s), .int m, .double y] K L (.inl (some (.int 1))) (sh_u2 (sh_u2 (sp_tk (sh_u2 K 2 t 0) t s m 1) 4 t 1) 27 t 0) L := by
  refine sh_cp (fun w Z k => sh_aload_n dc_Hall_acquire_0 rfl rfl k) ?_
  refine sh_cp (fun w Z k => sh_iload_n dc_Hall_acquire_1 rfl rfl k) ?_
  refine sh_ccall (fun w hw => sh_virt (As := [.int (nI t)]) dc_Hall_acquire_2 lm_Hall_workerAt ln_Hall_62 wd_448 wd_3 rfl rfl (Nat.le_of_ble_eq_true rfl) (hw _ _ cw_o0) rfl) (ct_Hall_workerAt_1 (t := t) (by omega)) ⟨(Nat.le_of_ble_eq_true rfl), (Nat.le_of_ble_eq_true rfl), (Nat.le_of_ble_eq_true rfl), (Nat.le_of_ble_eq_true rfl)⟩ ?_
  show sh_cW _ _ (_, _, [.ref (A (10 + t))]) K L _ _ _ _ _
  refine sh_cp (fun w Z k => sh_astore dc_Hall_acquire_5 (by decide) k) ?_
  refine sh_cp (fun w Z k => sh_iload_n dc_Hall_acquire_7 rfl rfl k) ?_
  refine sh_cp (fun w Z k => sh_iconst (v := 0) dc_Hall_acquire_8 (by decide) k) ?_
  refine sh_cp (fun w Z k => sh_iconst (v := 1) dc_Hall_acquire_9 (by decide) k) ?_
  refine sh_ccall (fun w hw => sh_stat (As := [.int m, .int 0, .int 1]) dc_Hall_acquire_10 lm_Hall_checkNumber ln_Hall_39 wd_191 wd_49 rfl rfl (Nat.le_of_ble_eq_true rfl)) (ct_Hall_checkNumber_2 (x := m) (lo := 0) (hi := 1) (sp_m0 hm) (sp_m1 hm)) ⟨(Nat.le_of_ble_eq_true rfl), (Nat.le_of_ble_eq_true rfl), (Nat.le_of_ble_eq_true rfl), (Nat.le_of_ble_eq_true rfl)⟩ ?_
  show sh_cW _ _ (_, _, []) K L _ _ _ _ _
  refine sh_cp (fun w Z k => sh_dload dc_Hall_acquire_13 rfl k) ?_
  refine sh_cp (fun w Z k => sh_iconst (v := (-1)) dc_Hall_acquire_15 (by decide) k) ?_
  refine sh_cp (fun w Z k => sh_sipush (v := 1000) dc_Hall_acquire_16 (by decide) k) ?_
  refine sh_ccall (fun w hw => sh_stat (As := [.double y, .int (-1), .int 1000]) dc_Hall_acquire_19 lm_Hall_checkAmount ln_Hall_66 wd_451 wd_49 rfl rfl (Nat.le_of_ble_eq_true rfl)) (ct_Hall_checkAmount_2 (x := y) (lo := (-1)) (hi := 1000) hl1 hl2) ⟨(Nat.le_of_ble_eq_true rfl), (Nat.le_of_ble_eq_true rfl), (Nat.le_of_ble_eq_true rfl), (Nat.le_of_ble_eq_true rfl)⟩ ?_
  show sh_cW _ _ (_, _, []) K L _ _ _ _ _
  refine sh_cp (fun w Z k => sh_aload_n dc_Hall_acquire_22 rfl rfl k) ?_
  refine sh_cp (fun w Z k => sh_iload_n dc_Hall_acquire_23 rfl rfl k) ?_
  refine sh_ccall (fun w hw => sh_virt (As := [.int (nI s)]) dc_Hall_acquire_24 lm_Hall_syncAt ln_Hall_73 wd_272 wd_2 rfl rfl (Nat.le_of_ble_eq_true rfl) (hw _ _ cw_o0) rfl) (ct_Hall_syncAt_2 (s := s) (by omega) (cw_nz hk_s (by decide))) ⟨(Nat.le_of_ble_eq_true rfl), (Nat.le_of_ble_eq_true rfl), (Nat.le_of_ble_eq_true rfl), (Nat.le_of_ble_eq_true rfl)⟩ ?_
  show sh_cW _ _ (_, _, [.ref (A (20 + s))]) K L _ _ _ _ _
  refine sh_cp (fun w Z k => sh_astore dc_Hall_acquire_27 (by decide) k) ?_
  refine sh_cp (fun w Z k => sh_aload dc_Hall_acquire_29 rfl k) ?_
  refine sh_ccall (fun w hw => sh_stat (As := [.ref (A (10 + t))]) dc_Hall_acquire_31 lm_Hall_checkRunning ln_Hall_77 wd_463 wd_49 rfl rfl (Nat.le_of_ble_eq_true rfl)) (ct_Hall_checkRunning_1 (t := t) (by omega) hp) ⟨(Nat.le_of_ble_eq_true rfl), (Nat.le_of_ble_eq_true rfl), (Nat.le_of_ble_eq_true rfl), (Nat.le_of_ble_eq_true rfl)⟩ ?_
  show sh_cW _ _ (_, _, []) K L _ _ _ _ _
  refine sh_cp (fun w Z k => sh_aload dc_Hall_acquire_34 rfl k) ?_
  refine sh_ccall (fun w hw => sh_stat (As := [.ref (A (20 + s))]) dc_Hall_acquire_36 lm_Hall_gateOf ln_Hall_81 wd_471 wd_49 rfl rfl (Nat.le_of_ble_eq_true rfl)) (ct_Hall_gateOf_Latch_1 (s := s) (by omega) hk_s) ⟨(Nat.le_of_ble_eq_true rfl), (Nat.le_of_ble_eq_true rfl), (Nat.le_of_ble_eq_true rfl), (Nat.le_of_ble_eq_true rfl)⟩ ?_
  show sh_cW _ _ (_, _, [.ref (A (20 + s))]) K L _ _ _ _ _
  refine sh_cp (fun w Z k => sh_astore dc_Hall_acquire_39 (by decide) k) ?_
  refine sh_cp (fun w Z k => sh_aload dc_Hall_acquire_41 rfl k) ?_
  refine sh_ccall (fun w hw => sh_virt (As := []) dc_Hall_acquire_43 lm_Worker_dropFlag ln_Hall_85 wd_492 wd_5 rfl rfl (Nat.le_of_ble_eq_true rfl) (hw _ _ (cw_ow (by omega))) rfl) (ct_Worker_dropFlag_1 (t := t) (by omega) v0_43) ⟨(Nat.le_of_ble_eq_true rfl), (Nat.le_of_ble_eq_true rfl), (Nat.le_of_ble_eq_true rfl), (Nat.le_of_ble_eq_true rfl)⟩ ?_
  show sh_cW _ _ (_, _, [.int (K 2 t)]) (sh_u2 K 2 t 0) L _ _ _ _ _
  refine sh_cp (fun w Z k => sh_if_eq (tgt := 56) dc_Hall_acquire_46 (by decide) (fun _ => k) (fun z => absurd c1_46 z)) ?_
  refine sh_cp (fun w Z k => sh_aload_n dc_Hall_acquire_56 rfl rfl k) ?_
  refine sh_cp (fun w Z k => sh_aload dc_Hall_acquire_57 rfl k) ?_
  refine sh_cp (fun w Z k => sh_aload dc_Hall_acquire_59 rfl k) ?_
  refine sh_cp (fun w Z k => sh_iload_n dc_Hall_acquire_61 rfl rfl k) ?_
  refine sh_ccall (fun w hw => sh_virt (As := [.ref (A (10 + t)), .ref (A (20 + s)), .int (nI s)]) dc_Hall_acquire_62 lm_Hall_keepOrder ln_Hall_92 wd_500 wd_7 rfl rfl (Nat.le_of_ble_eq_true rfl) (hw _ _ cw_o0) rfl) (cl_kon_Latch (t := t) (s := s) (by omega) (by omega) (cw_okr_up (by decide) ho) ((congrArg cw_cl (sh_u2_row (by decide) _)).trans hk_s)) ⟨(Nat.le_of_ble_eq_true rfl), (Nat.le_of_ble_eq_true rfl), (Nat.le_of_ble_eq_true rfl), (Nat.le_of_ble_eq_true rfl)⟩ ?_
  show sh_cW _ _ (_, _, []) (sh_u2 K 2 t 0) L _ _ _ _ _
  refine sh_cp (fun w Z k => sh_aload dc_Hall_acquire_65 rfl k) ?_
  refine sh_cp (fun w Z k => sh_aload dc_Hall_acquire_67 rfl k) ?_
  refine sh_cp (fun w Z k => sh_iload_n dc_Hall_acquire_69 rfl rfl k) ?_
  refine sh_ccall (fun w hw => sh_virtU (As := [.ref (A (10 + t)), .int m]) dc_Hall_acquire_70 lm_Gate_checkWish wd_528 wd_530 (Or.inr ⟨_, _, _, wd_529, wd_540⟩) ⟨by decide, by decide⟩ (by decide +kernel) wd_529 wd_531 rfl rfl (Nat.le_of_ble_eq_true rfl) (hw _ _ (cw_oa (by omega) ((congrArg cw_cl (sh_u2_row (by decide) _)).trans hk_s))) rfl) (ct_Gate_checkWish_Latch_1 (t := t) (s := s) (m := m) (by omega) (by omega) ((congrArg cw_cl (sh_u2_row (by decide) _)).trans hk_s)) ⟨(Nat.le_of_ble_eq_true rfl), (Nat.le_of_ble_eq_true rfl), (Nat.le_of_ble_eq_true rfl), (Nat.le_of_ble_eq_true rfl)⟩ ?_
  show sh_cW _ _ (_, _, []) (sh_u2 K 2 t 0) L _ _ _ _ _
  refine sh_cp (fun w Z k => sh_aload dc_Hall_acquire_73 rfl k) ?_
  refine sh_cp (fun w Z k => sh_aload dc_Hall_acquire_75 rfl k) ?_
  refine sh_cp (fun w Z k => sh_iload_n dc_Hall_acquire_77 rfl rfl k) ?_
  refine sh_ccall (fun w hw => sh_virtU (As := [.ref (A (10 + t)), .int m]) dc_Hall_acquire_78 lm_Latch_mustQueue wd_541 wd_543 (Or.inl wd_542) ⟨by decide, by decide⟩ (by decide +kernel) wd_545 wd_544 rfl rfl (Nat.le_of_ble_eq_true rfl) (hw _ _ (cw_oa (by omega) ((congrArg cw_cl (sh_u2_row (by decide) _)).trans hk_s))) rfl) (cl_mq_Latch (s := s) (t := t) (m := m) (l := l) (by omega) (by omega) (cw_okr_up (by decide) ho) (cw_row_up (by decide) hr) hm ((congrArg cw_cl (sh_u2_row (by decide) _)).trans hk_s)) ⟨(Nat.le_of_ble_eq_true rfl), (Nat.le_of_ble_eq_true rfl), (Nat.le_of_ble_eq_true rfl), (Nat.le_of_ble_eq_true rfl)⟩ ?_
  show sh_cW _ _ (_, _, [.int (sp_b (sp_mq (sh_u2 K 2 t 0) t s m l))]) (sh_u2 K 2 t 0) L _ _ _ _ _
  refine sh_cp (fun w Z k => sh_if_ne (tgt := 111) dc_Hall_acquire_81 (by decide) (fun z => absurd c2_81 z) (fun _ => k)) ?_
  refine sh_cp (fun w Z k => sh_aload dc_Hall_acquire_84 rfl k) ?_
  refine sh_cp (fun w Z k => sh_aload dc_Hall_acquire_86 rfl k) ?_
  refine sh_cp (fun w Z k => sh_iload_n dc_Hall_acquire_88 rfl rfl k) ?_
  refine sh_ccall (fun w hw => sh_virtU (As := [.ref (A (10 + t)), .int m]) dc_Hall_acquire_89 lm_Latch_canTake wd_570 wd_572 (Or.inl wd_571) ⟨by decide, by decide⟩ (by decide +kernel) wd_574 wd_573 rfl rfl (Nat.le_of_ble_eq_true rfl) (hw _ _ (cw_oa (by omega) ((congrArg cw_cl (sh_u2_row (by decide) _)).trans hk_s))) rfl) (cl_can_Latch (s := s) (t := t) (m := m) (by omega) (by omega) (cw_okr_up (by decide) ho) hm ((congrArg cw_cl (sh_u2_row (by decide) _)).trans hk_s)) ⟨(Nat.le_of_ble_eq_true rfl), (Nat.le_of_ble_eq_true rfl), (Nat.le_of_ble_eq_true rfl), (Nat.le_of_ble_eq_true rfl)⟩ ?_
  show sh_cW _ _ (_, _, [.int (sp_b (sp_can (sh_u2 K 2 t 0) t s m))]) (sh_u2 K 2 t 0) L _ _ _ _ _
  refine sh_cp (fun w Z k => sh_if_eq (tgt := 111) dc_Hall_acquire_92 (by decide) (fun z => absurd z c3_92) (fun _ => k)) ?_
  refine sh_cp (fun w Z k => sh_aload dc_Hall_acquire_95 rfl k) ?_
  refine sh_cp (fun w Z k => sh_aload dc_Hall_acquire_97 rfl k) ?_
  refine sh_cp (fun w Z k => sh_iload_n dc_Hall_acquire_99 rfl rfl k) ?_
  refine sh_cp (fun w Z k => sh_iconst (v := 1) dc_Hall_acquire_100 (by decide) k) ?_
  refine sh_ccall (fun w hw => sh_virtU (As := [.ref (A (10 + t)), .int m, .int 1]) dc_Hall_acquire_101 lm_Latch_take wd_589 wd_591 (Or.inl wd_590) ⟨by decide, by decide⟩ (by decide +kernel) wd_593 wd_592 rfl rfl (Nat.le_of_ble_eq_true rfl) (hw _ _ (cw_oa (by omega) ((congrArg cw_cl (sh_u2_row (by decide) _)).trans hk_s))) rfl) (cl_take_Latch (s := s) (t := t) (m := m) (e := 1) (by omega) (by omega) ((congrArg cw_cl (sh_u2_row (by decide) _)).trans hk_s)) ⟨(Nat.le_of_ble_eq_true rfl), (Nat.le_of_ble_eq_true rfl), (Nat.le_of_ble_eq_true rfl), (Nat.le_of_ble_eq_true rfl)⟩ ?_
  show sh_cW _ _ (_, _, []) (sp_tk (sh_u2 K 2 t 0) t s m 1) L _ _ _ _ _
  refine sh_cp (fun w Z k => sh_aload dc_Hall_acquire_104 rfl k) ?_
  refine sh_cp (fun w Z k => sh_iconst (v := 1) dc_Hall_acquire_106 (by decide) k) ?_
  refine sh_ccall (fun w hw => sh_virt (As := [.int 1]) dc_Hall_acquire_107 lm_Worker_finish ln_Hall_89 wd_496 wd_6 rfl rfl (Nat.le_of_ble_eq_true rfl) (hw _ _ (cw_ow (by omega))) rfl) (ct_Worker_finish_1 (t := t) (x := 1) (by omega)) ⟨(Nat.le_of_ble_eq_true rfl), (Nat.le_of_ble_eq_true rfl), (Nat.le_of_ble_eq_true rfl), (Nat.le_of_ble_eq_true rfl)⟩ ?_
  show sh_cW _ _ (_, _, [.int 1]) (sh_u2 (sh_u2 (sp_tk (sh_u2 K 2 t 0) t s m 1) 4 t 1) 27 t 0) L _ _ _ _ _
  exact sh_ce (fun w => sh_ireturn dc_Hall_acquire_110 rfl rfl (by decide) (by decide))
theorem ct_Hall_acquire_Latch_5 {A : Nat → Nat} {K : sh_II} {L : sh_DD} {t : Nat} {s : Nat} {m : Int32} {y : UInt64} {l : List Nat} (ht : t < 6) (hs : s < 8) (hm : m = 0 ∨ m = 1) (hl1 : ¬ (Op.cmpValue (FP.dcmp y (FP.i2d (-1))) .l) < 0) (hl2 : (Op.cmpValue (FP.dcmp y (FP.i2d 1000)) .g) ≤ 0) (hp : (K 5 t) = -1) (ho : cw_okr K) (hr : cw_row K s l) (hlen : l.length < 6) (hk_s : cw_cl (K 12 s) = 6) (v0_43 : narrow .boolean (.int (K 2 t)) = .int (K 2 t)) (c1_46 : (K 2 t) = 0) (c2_81 : ¬ (sp_b (sp_mq (sh_u2 K 2 t 0) t s m l)) = 0) (c3_115 : (Op.cmpValue (FP.dcmp y FP.dconst0) .l) = 0) : sh_cM A md_Hall_acquire [.ref (A 0), .int (nI t), .int (nI s), .int m, .double y] K L (.inl (some (.int 2))) (sh_u2 (sh_u2 (sh_u2 K 2 t 0) 4 t 2) 27 t 0) L := by
  refine sh_cp (fun w Z k => sh_aload_n dc_Hall_acquire_0 rfl rfl k) ?_
  refine sh_cp (fun w Z k => sh_iload_n dc_Hall_acquire_1 rfl rfl k) ?_
  refine sh_ccall (fun w hw => sh_virt (As := [.int (nI t)]) dc_Hall_acquire_2 lm_Hall_workerAt ln_Hall_62 wd_448 wd_3 rfl rfl (Nat.le_of_ble_eq_true rfl) (hw _ _ cw_o0) rfl) (ct_Hall_workerAt_1 (t := t) (by omega)) ⟨(Nat.le_of_ble_eq_true rfl), (Nat.le_of_ble_eq_true rfl), (Nat.le_of_ble_eq_true rfl), (Nat.le_of_ble_eq_true rfl)⟩ ?_
  show sh_cW _ _ (_, _, [.ref (A (10 + t))]) K L _ _ _ _ _
  refine sh_cp (fun w Z k => sh_astore dc_Hall_acquire_5 (by decide) k) ?_
  refine sh_cp (fun w Z k => sh_iload_n dc_Hall_acquire_7 rfl rfl k) ?_
  refine sh_cp (fun w Z k => sh_iconst (v := 0) dc_Hall_acquire_8 (by decide) k) ?_
  refine sh_cp (fun w Z k => sh_iconst (v := 1) dc_Hall_acquire_9 (by decide) k) ?_
  refine sh_ccall (fun w hw => sh_stat (As := [.int m, .int 0, .int 1]) dc_Hall_acquire_10 lm_Hall_checkNumber ln_Hall_39 wd_191 wd_49 rfl rfl (Nat.le_of_ble_eq_true rfl)) (ct_Hall_checkNumber_2 (x := m) (lo := 0) (hi := 1) (sp_m0 hm) (sp_m1 hm)) ⟨(Nat.le_of_ble_eq_true rfl), (Nat.le_of_ble_eq_true rfl), (Nat.le_of_ble_eq_true rfl), (Nat.le_of_ble_eq_true rfl)⟩ ?_
  show sh_cW _ _ (_, _, []) K L _ _ _ _ _
  refine sh_cp (fun w Z k => sh_dload dc_Hall_acquire_13 rfl k) ?_
  refine sh_cp (fun w Z k => sh_iconst (v := (-1)) dc_Hall_acquire_15 (by decide) k) ?_
  refine sh_cp (fun w Z k => sh_sipush (v := 1000) dc_Hall_acquire_16 (by decide) k) ?_
  refine sh_ccall (fun w hw => sh_stat (As := [.double y, .int (-1), .int 1000]) dc_Hall_acquire_19 lm_Hall_checkAmount ln_Hall_66 wd_451 wd_49 rfl rfl (Nat.le_of_ble_eq_true rfl)) (ct_Hall_checkAmount_2 (x := y) (lo := (-1)) (hi := 1000) hl1 hl2) ⟨(Nat.le_of_ble_eq_true rfl), (Nat.le_of_ble_eq_true rfl), (Nat.le_of_ble_eq_true rfl), (Nat.le_of_ble_eq_true rfl)⟩ ?_
  show sh_cW _ _ (_, _, []) K L _ _ _ _ _
  refine sh_cp (fun w Z k => sh_aload_n dc_Hall_acquire_22 rfl rfl k) ?_
  refine sh_cp (fun w Z k => sh_iload_n dc_Hall_acquire_23 rfl rfl k) ?_
  refine sh_ccall (fun w hw => sh_virt (As := [.int (nI s)]) dc_Hall_acquire_24 lm_Hall_syncAt ln_Hall_73 wd_272 wd_2 rfl rfl (Nat.le_of_ble_eq_true rfl) (hw _ _ cw_o0) rfl) (ct_Hall_syncAt_2 (s := s) (by omega) (cw_nz hk_s (by decide))) ⟨(Nat.le_of_ble_eq_true rfl), (Nat.le_of_ble_eq_true rfl), (Nat.le_of_ble_eq_true rfl), (Nat.le_of_ble_eq_true rfl)⟩ ?_
  show sh_cW _ _ (_, _, [.ref (A (20 + s))]) K L _ _ _ _ _
  refine sh_cp (fun w Z k => sh_astore dc_Hall_acquire_27 (by decide) k) ?_
  refine sh_cp (fun w Z k => sh_aload dc_Hall_acquire_29 rfl k) ?_
  refine sh_ccall (fun w hw => sh_stat (As := [.ref (A (10 + t))]) dc_Hall_acquire_31 lm_Hall_checkRunning ln_Hall_77 wd_463 wd_49 rfl rfl (Nat.le_of_ble_eq_true rfl)) (ct_Hall_checkRunning_1 (t := t) (by omega) hp) ⟨(Nat.le_of_ble_eq_true rfl), (Nat.le_of_ble_eq_true rfl), (Nat.le_of_ble_eq_true rfl), (Nat.le_of_ble_eq_true rfl)⟩ ?_
  show sh_cW _ _ (_, _, []) K L _ _ _ _ _
  refine sh_cp (fun w Z k => sh_aload dc_Hall_acquire_34 rfl k) ?_
  refine sh_ccall (fun w hw => sh_stat (As := [.ref (A (20 + s))]) dc_Hall_acquire_36 lm_Hall_gateOf ln_Hall_81 wd_471 wd_49 rfl rfl (Nat.le_of_ble_eq_true rfl)) (ct_Hall_gateOf_Latch_1 (s := s) (by omega) hk_s) ⟨(Nat.le_of_ble_eq_true rfl), (Nat.le_of_ble_eq_true rfl), (Nat.le_of_ble_eq_true rfl), (Nat.le_of_ble_eq_true rfl)⟩ ?_
  show sh_cW _ _ (_, _, [.ref (A (20 + s))]) K L _ _ _ _ _
  refine sh_cp (fun w Z k => sh_astore dc_Hall_acquire_39 (by decide) k) ?_
  refine sh_cp (fun w Z k => sh_aload dc_Hall_acquire_41 rfl k) ?_
  refine sh_ccall (fun w hw => sh_virt (As := []) dc_Hall_acquire_43 lm_Worker_dropFlag ln_Hall_85 wd_492 wd_5 rfl rfl (Nat.le_of_ble_eq_true rfl) (hw _ _ (cw_ow (by omega))) rfl) (ct_Worker_dropFlag_1 (t := t) (by omega) v0_43) ⟨(Nat.le_of_ble_eq_true rfl), (Nat.le_of_ble_eq_true rfl), (Nat.le_of_ble_eq_true rfl), (Nat.le_of_ble_eq_true rfl)⟩ ?_
  show sh_cW _ _ (_, _, [.int (K 2 t)]) (sh_u2 K 2 t 0) L _ _ _ _ _
  refine sh_cp (fun w Z k => sh_if_eq (tgt := 56) dc_Hall_acquire_46 (by decide) (fun _ => k) (fun z => absurd c1_46 z)) ?_
  refine sh_cp (fun w Z k => sh_aload_n dc_Hall_acquire_56 rfl rfl k) ?_
  refine sh_cp (fun w Z k => sh_aload dc_Hall_acquire_57 rfl k) ?_
  refine sh_cp (fun w Z k => sh_aload dc_Hall_acquire_59 rfl k) ?_
  refine sh_cp (fun w Z k => sh_iload_n dc_Hall_acquire_61 rfl rfl k) ?_
  refine sh_ccall (fun w hw => sh_virt (As := [.ref (A (10 + t)), .ref (A (20 + s)), .int (nI s)]) dc_Hall_acquire_62 lm_Hall_keepOrder ln_Hall_92 wd_500 wd_7 rfl rfl (Nat.le_of_ble_eq_true rfl) (hw _ _ cw_o0) rfl) (cl_kon_Latch (t := t) (s := s) (by omega) (by omega) (cw_okr_up (by decide) ho) ((congrArg cw_cl (sh_u2_row (by decide) _)).trans hk_s)) ⟨(Nat.le_of_ble_eq_true rfl), (Nat.le_of_ble_eq_true rfl), (Nat.le_of_ble_eq_true rfl), (Nat.le_of_ble_eq_true rfl)⟩ ?_
  show sh_cW _ _ (_, _, []) (sh_u2 K 2 t 0) L _ _ _ _ _
  refine sh_cp (fun w Z k => sh_aload dc_Hall_acquire_65 rfl k) ?_
  refine sh_cp (fun w Z k => sh_aload dc_Hall_acquire_67 rfl k) ?_
  refine sh_cp (fun w Z k => sh_iload_n dc_Hall_acquire_69 rfl rfl k) ?_
  refine sh_ccall (fun w hw => sh_virtU (As := [.ref (A (10 + t)), .int m]) dc_Hall_acquire_70 lm_Gate_checkWish wd_528 wd_530 (Or.inr ⟨_, _, _, wd_529, wd_540⟩) ⟨by decide, by decide⟩ (by decide +kernel) wd_529 wd_531 rfl rfl (Nat.le_of_ble_eq_true rfl) (hw _ _ (cw_oa (by omega) ((congrArg cw_cl (sh_u2_row (by decide) _)).trans hk_s))) rfl) (ct_Gate_checkWish_Latch_1 (t := t) (s := s) (m := m) (by omega) (by omega) ((congrArg cw_cl (sh_u2_row (by decide) _)).trans hk_s)) ⟨(Nat.le_of_ble_eq_true rfl), (Nat.le_of_ble_eq_true rfl), (Nat.le_of_ble_eq_true rfl), (Nat.le_of_ble_eq_true rfl)⟩ ?_
  show sh_cW _ _ (_, _, []) (sh_u2 K 2 t 0) L _ _ _ _ _
  refine sh_cp (fun w Z k => sh_aload dc_Hall_acquire_73 rfl k) ?_
  refine sh_cp (fun w Z k => sh_aload dc_Hall_acquire_75 rfl k) ?_
  refine sh_cp (fun w Z k => sh_iload_n dc_Hall_acquire_77 rfl rfl k) ?_
  refine sh_ccall (fun w hw => sh_virtU (As := [.ref (A (10 + t)), .int m]) dc_Hall_acquire_78 lm_Latch_mustQueue wd_541 wd_543 (Or.inl wd_542) ⟨by decide, by decide⟩ (by decide +kernel) wd_545 wd_544 rfl rfl (Nat.le_of_ble_eq_true rfl) (hw _ _ (cw_oa (by omega) ((congrArg cw_cl (sh_u2_row (by decide) _)).trans hk_s))) rfl) (cl_mq_Latch (s := s) (t := t) (m := m) (l := l) (by omega) (by omega) (cw_okr_up (by decide) ho) (cw_row_up (by decide) hr) hm ((congrArg cw_cl (sh_u2_row (by decide) _)).trans hk_s)) ⟨(Nat.le_of_ble_eq_true rfl), (Nat.le_of_ble_eq_true rfl), (Nat.le_of_ble_eq_true rfl), (Nat.le_of_ble_eq_true rfl)⟩ ?_
  show sh_cW _ _ (_, _, [.int (sp_b (sp_mq (sh_u2 K 2 t 0) t s m l))]) (sh_u2 K 2 t 0) L _ _ _ _ _
  refine sh_cp (fun w Z k => sh_if_ne (tgt := 111) dc_Hall_acquire_81 (by decide) (fun _ => k) (fun z => absurd z c2_81)) ?_
  refine sh_cp (fun w Z k => sh_dload dc_Hall_acquire_111 rfl k) ?_
  refine sh_cp (fun w Z k => sh_dconst0 dc_Hall_acquire_113 k) ?_
  refine sh_cp (fun w Z k => sh_dcmp dc_Hall_acquire_114 k) ?_
  refine sh_cp (fun w Z k => sh_if_ne (tgt := 125) dc_Hall_acquire_115 (by decide) (fun z => absurd c3_115 z) (fun _ => k)) ?_
  refine sh_cp (fun w Z k => sh_aload dc_Hall_acquire_118 rfl k) ?_
  refine sh_cp (fun w Z k => sh_iconst (v := 2) dc_Hall_acquire_120 (by decide) k) ?_
  refine sh_ccall (fun w hw => sh_virt (As := [.int 2]) dc_Hall_acquire_121 lm_Worker_finish ln_Hall_89 wd_496 wd_6 rfl rfl (Nat.le_of_ble_eq_true rfl) (hw _ _ (cw_ow (by omega))) rfl) (ct_Worker_finish_1 (t := t) (x := 2) (by omega)) ⟨(Nat.le_of_ble_eq_true rfl), (Nat.le_of_ble_eq_true rfl), (Nat.le_of_ble_eq_true rfl), (Nat.le_of_ble_eq_true rfl)⟩ ?_
  show sh_cW _ _ (_, _, [.int 2]) (sh_u2 (sh_u2 (sh_u2 K 2 t 0) 4 t 2) 27 t 0) L _ _ _ _ _
  exact sh_ce (fun w => sh_ireturn dc_Hall_acquire_124 rfl rfl (by decide) (by decide))
theorem ct_Hall_acquire_Latch_6 {A : Nat → Nat} {K : sh_II} {L : sh_DD} {t : Nat} {s : Nat} {m : Int32} {y : UInt64} {l : List Nat} (ht : t < 6) (hs : s < 8) (hm : m = 0 ∨ m = 1) (hl1 : ¬ (Op.cmpValue (FP.dcmp y (FP.i2d (-1))) .l) < 0) (hl2 : (Op.cmpValue (FP.dcmp y (FP.i2d 1000)) .g) ≤ 0) (hp : (K 5 t) = -1) (ho : cw_okr K) (hr : cw_row K s l) (hlen : l.length < 6) (hk_s : cw_cl (K 12 s) = 6) (v0_43 : narrow .boolean (.int (K 2 t)) = .int (K 2 t)) (c1_46 : (K 2 t) = 0) (c2_81 : ¬ (sp_b (sp_mq (sh_u2 K 2 t 0) t s m l)) = 0) (c3_115 : ¬ (Op.cmpValue (FP.dcmp y FP.dconst0) .l) = 0) (c4_157 : (Op.cmpValue (FP.dcmp y FP.dconst0) .l) ≤ 0) : sh_cM A md_Hall_acquire [.ref (A 0), .int (nI t), .int (nI s), .int m, .double y] K L (.inl (some (.int ((sp_enq (sh_u2 (sh_u2 (sh_u2 K 2 t 0) 9 t 1) 10 t 1) s t m l) 4 t)))) (sp_enq (sh_u2 (sh_u2 (sh_u2 K 2 t 0) 9 t 1) 10 t 1) s t m l) (sh_u2 L 8 t (L 11 0)) := by
  refine sh_cp (fun w Z k => sh_aload_n dc_Hall_acquire_0 rfl rfl k) ?_
  refine sh_cp (fun w Z k => sh_iload_n dc_Hall_acquire_1 rfl rfl k) ?_
  refine sh_ccall (fun w hw => sh_virt (As := [.int (nI t)]) dc_Hall_acquire_2 lm_Hall_workerAt ln_Hall_62 wd_448 wd_3 rfl rfl (Nat.le_of_ble_eq_true rfl) (hw _ _ cw_o0) rfl) (ct_Hall_workerAt_1 (t := t) (by omega)) ⟨(Nat.le_of_ble_eq_true rfl), (Nat.le_of_ble_eq_true rfl), (Nat.le_of_ble_eq_true rfl), (Nat.le_of_ble_eq_true rfl)⟩ ?_
  show sh_cW _ _ (_, _, [.ref (A (10 + t))]) K L _ _ _ _ _
  refine sh_cp (fun w Z k => sh_astore dc_Hall_acquire_5 (by decide) k) ?_
  refine sh_cp (fun w Z k => sh_iload_n dc_Hall_acquire_7 rfl rfl k) ?_
  refine sh_cp (fun w Z k => sh_iconst (v := 0) dc_Hall_acquire_8 (by decide) k) ?_
  refine sh_cp (fun w Z k => sh_iconst (v := 1) dc_Hall_acquire_9 (by decide) k) ?_
  refine sh_ccall (fun w hw => sh_stat (As := [.int m, .int 0, .int 1]) dc_Hall_acquire_10 lm_Hall_checkNumber ln_Hall_39 wd_191 wd_49 rfl rfl (Nat.le_of_ble_eq_true rfl)) (ct_Hall_checkNumber_2 (x := m) (lo := 0) (hi := 1) (sp_m0 hm) (sp_m1 hm)) ⟨(Nat.le_of_ble_eq_true rfl), (Nat.le_of_ble_eq_true rfl), (Nat.le_of_ble_eq_true rfl), (Nat.le_of_ble_eq_true rfl)⟩ ?_
  show sh_cW _ _ (_, _, []) K L _ _ _ _ _
  refine sh_cp (fun w Z k => sh_dload dc_Hall_acquire_13 rfl k) ?_
  refine sh_cp (fun w Z k => sh_iconst (v := (-1)) dc_Hall_acquire_15 (by decide) k) ?_
  refine sh_cp (fun w Z k => sh_sipush (v := 1000) dc_Hall_acquire_16 (by decide) k) ?_
  refine sh_ccall (fun w hw => sh_stat (As := [.double y, .int (-1), .int 1000]) dc_Hall_acquire_19 lm_Hall_checkAmount ln_Hall_66 wd_451 wd_49 rfl rfl (Nat.le_of_ble_eq_true rfl)) (ct_Hall_checkAmount_2 (x := y) (lo := (-1)) (hi := 1000) hl1 hl2) ⟨(Nat.le_of_ble_eq_true rfl), (Nat.le_of_ble_eq_true rfl), (Nat.le_of_ble_eq_true rfl), (Nat.le_of_ble_eq_true rfl)⟩ ?_
  show sh_cW _ _ (_, _, []) K L _ _ _ _ _
  refine sh_cp (fun w Z k => sh_aload_n dc_Hall_acquire_22 rfl rfl k) ?_
  refine sh_cp (fun w Z k => sh_iload_n dc_Hall_acquire_23 rfl rfl k) ?_
  refine sh_ccall (fun w hw => sh_virt (As := [.int (nI s)]) dc_Hall_acquire_24 lm_Hall_syncAt ln_Hall_73 wd_272 wd_2 rfl rfl (Nat.le_of_ble_eq_true rfl) (hw _ _ cw_o0) rfl) (ct_Hall_syncAt_2 (s := s) (by omega) (cw_nz hk_s (by decide))) ⟨(Nat.le_of_ble_eq_true rfl), (Nat.le_of_ble_eq_true rfl), (Nat.le_of_ble_eq_true rfl), (Nat.le_of_ble_eq_true rfl)⟩ ?_
  show sh_cW _ _ (_, _, [.ref (A (20 + s))]) K L _ _ _ _ _
  refine sh_cp (fun w Z k => sh_astore dc_Hall_acquire_27 (by decide) k) ?_
  refine sh_cp (fun w Z k => sh_aload dc_Hall_acquire_29 rfl k) ?_
  refine sh_ccall (fun w hw => sh_stat (As := [.ref (A (10 + t))]) dc_Hall_acquire_31 lm_Hall_checkRunning ln_Hall_77 wd_463 wd_49 rfl rfl (Nat.le_of_ble_eq_true rfl)) (ct_Hall_checkRunning_1 (t := t) (by omega) hp) ⟨(Nat.le_of_ble_eq_true rfl), (Nat.le_of_ble_eq_true rfl), (Nat.le_of_ble_eq_true rfl), (Nat.le_of_ble_eq_true rfl)⟩ ?_
  show sh_cW _ _ (_, _, []) K L _ _ _ _ _
  refine sh_cp (fun w Z k => sh_aload dc_Hall_acquire_34 rfl k) ?_
  refine sh_ccall (fun w hw => sh_stat (As := [.ref (A (20 + s))]) dc_Hall_acquire_36 lm_Hall_gateOf ln_Hall_81 wd_471 wd_49 rfl rfl (Nat.le_of_ble_eq_true rfl)) (ct_Hall_gateOf_Latch_1 (s := s) (by omega) hk_s) ⟨(Nat.le_of_ble_eq_true rfl), (Nat.le_of_ble_eq_true rfl), (Nat.le_of_ble_eq_true rfl), (Nat.le_of_ble_eq_true rfl)⟩ ?_
  show sh_cW _ _ (_, _, [.ref (A (20 + s))]) K L _ _ _ _ _
  refine sh_cp (fun w Z k => sh_astore dc_Hall_acquire_39 (by decide) k) ?_
  refine sh_cp (fun w Z k => sh_aload dc_Hall_acquire_41 rfl k) ?_
  refine sh_ccall (fun w hw => sh_virt (As := []) dc_Hall_acquire_43 lm_Worker_dropFlag ln_Hall_85 wd_492 wd_5 rfl rfl (Nat.le_of_ble_eq_true rfl) (hw _ _ (cw_ow (by omega))) rfl) (ct_Worker_dropFlag_1 (t := t) (by omega) v0_43) ⟨(Nat.le_of_ble_eq_true rfl), (Nat.le_of_ble_eq_true rfl), (Nat.le_of_ble_eq_true rfl), (Nat.le_of_ble_eq_true rfl)⟩ ?_
  show sh_cW _ _ (_, _, [.int (K 2 t)]) (sh_u2 K 2 t 0) L _ _ _ _ _
  refine sh_cp (fun w Z k => sh_if_eq (tgt := 56) dc_Hall_acquire_46 (by decide) (fun _ => k) (fun z => absurd c1_46 z)) ?_
  refine sh_cp (fun w Z k => sh_aload_n dc_Hall_acquire_56 rfl rfl k) ?_
  refine sh_cp (fun w Z k => sh_aload dc_Hall_acquire_57 rfl k) ?_
  refine sh_cp (fun w Z k => sh_aload dc_Hall_acquire_59 rfl k) ?_
  refine sh_cp (fun w Z k => sh_iload_n dc_Hall_acquire_61 rfl rfl k) ?_
  refine sh_ccall (fun w hw => sh_virt (As := [.ref (A (10 + t)), .ref (A (20 + s)), .int (nI s)]) dc_Hall_acquire_62 lm_Hall_keepOrder ln_Hall_92 wd_500 wd_7 rfl rfl (Nat.le_of_ble_eq_true rfl) (hw _ _ cw_o0) rfl) (cl_kon_Latch (t := t) (s := s) (by omega) (by omega) (cw_okr_up (by decide) ho) ((congrArg cw_cl (sh_u2_row (by decide) _)).trans hk_s)) ⟨(Nat.le_of_ble_eq_true rfl), (Nat.le_of_ble_eq_true rfl), (Nat.le_of_ble_eq_true rfl), (Nat.le_of_ble_eq_true rfl)⟩ ?_
  show sh_cW _ _ (_, _, []) (sh_u2 K 2 t 0) L _ _ _ _ _
  refine sh_cp (fun w Z k => sh_aload dc_Hall_acquire_65 rfl k) ?_
  refine sh_cp (fun w Z k => sh_aload dc_Hall_acquire_67 rfl k) ?_
  refine sh_cp (fun w Z k => sh_iload_n dc_Hall_acquire_69 rfl rfl k) ?_
  refine sh_ccall (fun w hw => sh_virtU (As := [.ref (A (10 + t)), .int m]) dc_Hall_acquire_70 lm_Gate_checkWish wd_528 wd_530 (Or.inr ⟨_, _, _, wd_529, wd_540⟩) ⟨by decide, by decide⟩ (by decide +kernel) wd_529 wd_531 rfl rfl (Nat.le_of_ble_eq_true rfl) (hw _ _ (cw_oa (by omega) ((congrArg cw_cl (sh_u2_row (by decide) _)).trans hk_s))) rfl) (ct_Gate_checkWish_Latch_1 (t := t) (s := s) (m := m) (by omega) (by omega) ((congrArg cw_cl (sh_u2_row (by decide) _)).trans hk_s)) ⟨(Nat.le_of_ble_eq_true rfl), (Nat.le_of_ble_eq_true rfl), (Nat.le_of_ble_eq_true rfl), (Nat.le_of_ble_eq_true rfl)⟩ ?_
  show sh_cW _ _ (_, _, []) (sh_u2 K 2 t 0) L _ _ _ _ _
  refine sh_cp (fun w Z k => sh_aload dc_Hall_acquire_73 rfl k) ?_
  refine sh_cp (fun w Z k => sh_aload dc_Hall_acquire_75 rfl k) ?_
  refine sh_cp (fun w Z k => sh_iload_n dc_Hall_acquire_77 rfl rfl k) ?_
  refine sh_ccall (fun w hw => sh_virtU (As := [.ref (A (10 + t)), .int m]) dc_Hall_acquire_78 lm_Latch_mustQueue wd_541 wd_543 (Or.inl wd_542) ⟨by decide, by decide⟩ (by decide +kernel) wd_545 wd_544 rfl rfl (Nat.le_of_ble_eq_true rfl) (hw _ _ (cw_oa (by omega) ((congrArg cw_cl (sh_u2_row (by decide) _)).trans hk_s))) rfl) (cl_mq_Latch (s := s) (t := t) (m := m) (l := l) (by omega) (by omega) (cw_okr_up (by decide) ho) (cw_row_up (by decide) hr) hm ((congrArg cw_cl (sh_u2_row (by decide) _)).trans hk_s)) ⟨(Nat.le_of_ble_eq_true rfl), (Nat.le_of_ble_eq_true rfl), (Nat.le_of_ble_eq_true rfl), (Nat.le_of_ble_eq_true rfl)⟩ ?_
  show sh_cW _ _ (_, _, [.int (sp_b (sp_mq (sh_u2 K 2 t 0) t s m l))]) (sh_u2 K 2 t 0) L _ _ _ _ _
  refine sh_cp (fun w Z k => sh_if_ne (tgt := 111) dc_Hall_acquire_81 (by decide) (fun _ => k) (fun z => absurd z c2_81)) ?_
  refine sh_cp (fun w Z k => sh_dload dc_Hall_acquire_111 rfl k) ?_
  refine sh_cp (fun w Z k => sh_dconst0 dc_Hall_acquire_113 k) ?_
  refine sh_cp (fun w Z k => sh_dcmp dc_Hall_acquire_114 k) ?_
  refine sh_cp (fun w Z k => sh_if_ne (tgt := 125) dc_Hall_acquire_115 (by decide) (fun _ => k) (fun z => absurd z c3_115)) ?_
  refine sh_cp (fun w Z k => sh_aload dc_Hall_acquire_125 rfl k) ?_
  refine sh_cp (fun w Z k => sh_iconst (v := 1) dc_Hall_acquire_127 (by decide) k) ?_
  refine sh_cput (K1 := (sh_u2 (sh_u2 K 2 t 0) 9 t 1)) (L1 := L) (10 + t) 9 dc_Hall_acquire_128 (cw_ow (by omega)) rfl (by decide) fl_Hall_113 rfl rfl rfl rfl pd_I rfl rfl (cq_Worker_9 (by omega)) (fun i hi => cw_upI (by decide) hi) ?_
  refine sh_cp (fun w Z k => sh_aload dc_Hall_acquire_131 rfl k) ?_
  refine sh_cp (fun w Z k => sh_iconst (v := 1) dc_Hall_acquire_133 (by decide) k) ?_
  refine sh_cput (K1 := (sh_u2 (sh_u2 (sh_u2 K 2 t 0) 9 t 1) 10 t 1)) (L1 := L) (10 + t) 10 dc_Hall_acquire_134 (cw_ow (by omega)) rfl (by decide) fl_Hall_116 rfl rfl rfl rfl pd_I rfl rfl (cq_Worker_10 (by omega)) (fun i hi => cw_upI (by decide) hi) ?_
  refine sh_cp (fun w Z k => sh_aload dc_Hall_acquire_137 rfl k) ?_
  refine sh_cp (fun w Z k => sh_aload dc_Hall_acquire_139 rfl k) ?_
  refine sh_cp (fun w Z k => sh_iload_n dc_Hall_acquire_141 rfl rfl k) ?_
  refine sh_cp (fun w Z k => sh_aload_n dc_Hall_acquire_142 rfl rfl k) ?_
  refine sh_cget 0 4 dc_Hall_acquire_143 cw_o0 rfl (by decide) fl_Hall_35 rfl rfl rfl rfl ?_
  refine sh_ccall (fun w hw => sh_virtU (As := [.ref (A (10 + t)), .int m, .double (L 11 0)]) dc_Hall_acquire_146 lm_Sync_enqueue wd_604 wd_605 (Or.inl wd_606) ⟨by decide, by decide⟩ (by decide +kernel) wd_611 wd_607 rfl rfl (Nat.le_of_ble_eq_true rfl) (hw _ _ (cw_oa (by omega) ((congrArg cw_cl (Eq.trans (sh_u2_row (by decide) _) (Eq.trans (sh_u2_row (by decide) _) (sh_u2_row (by decide) _)))).trans hk_s))) rfl) (cl_enq_Latch (s := s) (t := t) (m := m) (a := L 11 0) (l := l) (by omega) (by omega) (cw_row_up (by decide) (cw_row_up (by decide) (cw_row_up (by decide) hr))) hlen ((congrArg cw_cl (Eq.trans (sh_u2_row (by decide) _) (Eq.trans (sh_u2_row (by decide) _) (sh_u2_row (by decide) _)))).trans hk_s)) ⟨(Nat.le_of_ble_eq_true rfl), (Nat.le_of_ble_eq_true rfl), (Nat.le_of_ble_eq_true rfl), (Nat.le_of_ble_eq_true rfl)⟩ ?_
  show sh_cW _ _ (_, _, []) (sp_enq (sh_u2 (sh_u2 (sh_u2 K 2 t 0) 9 t 1) 10 t 1) s t m l) (sh_u2 L 8 t (L 11 0)) _ _ _ _ _
  refine sh_cp (fun w Z k => sh_aload dc_Hall_acquire_149 rfl k) ?_
  refine sh_cp (fun w Z k => sh_aload_n dc_Hall_acquire_151 rfl rfl k) ?_
  refine sh_cget 0 4 dc_Hall_acquire_152 cw_o0 rfl (by decide) fl_Hall_35 rfl rfl rfl rfl ?_
  refine sh_ctd (show (sh_u2 L 8 t (L 11 0)) 11 0 = L 11 0 from (sh_u2_row (by decide) _)) ?_
  refine sh_cp (fun w Z k => sh_dload dc_Hall_acquire_155 rfl k) ?_
  refine sh_ccall (fun w hw => sh_virt (As := [.double (L 11 0), .double y]) dc_Hall_acquire_157 lm_Worker_setEnd ln_Hall_123 wd_619 wd_17 rfl rfl (Nat.le_of_ble_eq_true rfl) (hw _ _ (cw_ow (by omega))) rfl) (ct_Worker_setEnd_1 (t := t) (a := L 11 0) (b := y) (by omega) c4_157) ⟨(Nat.le_of_ble_eq_true rfl), (Nat.le_of_ble_eq_true rfl), (Nat.le_of_ble_eq_true rfl), (Nat.le_of_ble_eq_true rfl)⟩ ?_
  show sh_cW _ _ (_, _, []) (sp_enq (sh_u2 (sh_u2 (sh_u2 K 2 t 0) 9 t 1) 10 t 1) s t m l) (sh_u2 L 8 t (L 11 0)) _ _ _ _ _
  refine sh_cp (fun w Z k => sh_aload dc_Hall_acquire_160 rfl k) ?_
  refine sh_cget (10 + t) 3 dc_Hall_acquire_162 (cw_ow (by omega)) rfl (by decide) fl_Hall_127 rfl rfl rfl rfl ?_
  exact sh_ce (fun w => sh_ireturn dc_Hall_acquire_165 rfl rfl (by decide) (by decide))
theorem ct_Hall_acquire_Latch_7 {A : Nat → Nat} {K : sh_II} {L : sh_DD} {t : Nat} {s : Nat} {m : Int32} {y : UInt64} {l : List Nat} (ht : t < 6) (hs : s < 8) (hm : m = 0 ∨ m = 1) (hl1 : ¬ (Op.cmpValue (FP.dcmp y (FP.i2d (-1))) .l) < 0) (hl2 : (Op.cmpValue (FP.dcmp y (FP.i2d 1000)) .g) ≤ 0) (hp : (K 5 t) = -1) (ho : cw_okr K) (hr : cw_row K s l) (hlen : l.length < 6) (hk_s : cw_cl (K 12 s) = 6) (v0_43 : narrow .boolean (.int (K 2 t)) = .int (K 2 t)) (c1_46 : (K 2 t) = 0) (c2_81 : ¬ (sp_b (sp_mq (sh_u2 K 2 t 0) t s m l)) = 0) (c3_115 : ¬ (Op.cmpValue (FP.dcmp y FP.dconst0) .l) = 0) (c4_157 : ¬ (Op.cmpValue (FP.dcmp y FP.dconst0) .l) ≤ 0) (v5_157 : vf_n64 (FP.dadd (L 11 0) y)) : sh_cM A md_Hall_acquire [.ref (A 0), .int (nI t), .int (nI s), .int m, .double y] K L (.inl (some (.int ((sh_u2 (sp_enq (sh_u2 (sh_u2 (sh_u2 K 2 t 0) 9 t 1) 10 t 1) s t m l) 26 t 1) 4 t)))) (sh_u2 (sp_enq (sh_u2 (sh_u2 (sh_u2 K 2 t 0) 9 t 1) 10 t 1) s t m l) 26 t 1) (sh_u2 (sh_u2 L 8 t (L 11 0)) 7 t (FP.dadd (L 11 0) y)) := by
  refine sh_cp (fun w Z k => sh_aload_n dc_Hall_acquire_0 rfl rfl k) ?_
  refine sh_cp (fun w Z k => sh_iload_n dc_Hall_acquire_1 rfl rfl k) ?_
  refine sh_ccall (fun w hw => sh_virt (As := [.int (nI t)]) dc_Hall_acquire_2 lm_Hall_workerAt ln_Hall_62 wd_448 wd_3 rfl rfl (Nat.le_of_ble_eq_true rfl) (hw _ _ cw_o0) rfl) (ct_Hall_workerAt_1 (t := t) (by omega)) ⟨(Nat.le_of_ble_eq_true rfl), (Nat.le_of_ble_eq_true rfl), (Nat.le_of_ble_eq_true rfl), (Nat.le_of_ble_eq_true rfl)⟩ ?_
  show sh_cW _ _ (_, _, [.ref (A (10 + t))]) K L _ _ _ _ _
  refine sh_cp (fun w Z k => sh_astore dc_Hall_acquire_5 (by decide) k) ?_
  refine sh_cp (fun w Z k => sh_iload_n dc_Hall_acquire_7 rfl rfl k) ?_
  refine sh_cp (fun w Z k => sh_iconst (v := 0) dc_Hall_acquire_8 (by decide) k) ?_
  refine sh_cp (fun w Z k => sh_iconst (v := 1) dc_Hall_acquire_9 (by decide) k) ?_
  refine sh_ccall (fun w hw => sh_stat (As := [.int m, .int 0, .int 1]) dc_Hall_acquire_10 lm_Hall_checkNumber ln_Hall_39 wd_191 wd_49 rfl rfl (Nat.le_of_ble_eq_true rfl)) (ct_Hall_checkNumber_2 (x := m) (lo := 0) (hi := 1) (sp_m0 hm) (sp_m1 hm)) ⟨(Nat.le_of_ble_eq_true rfl), (Nat.le_of_ble_eq_true rfl), (Nat.le_of_ble_eq_true rfl), (Nat.le_of_ble_eq_true rfl)⟩ ?_
  show sh_cW _ _ (_, _, []) K L _ _ _ _ _
  refine sh_cp (fun w Z k => sh_dload dc_Hall_acquire_13 rfl k) ?_
  refine sh_cp (fun w Z k => sh_iconst (v := (-1)) dc_Hall_acquire_15 (by decide) k) ?_
  refine sh_cp (fun w Z k => sh_sipush (v := 1000) dc_Hall_acquire_16 (by decide) k) ?_
  refine sh_ccall (fun w hw => sh_stat (As := [.double y, .int (-1), .int 1000]) dc_Hall_acquire_19 lm_Hall_checkAmount ln_Hall_66 wd_451 wd_49 rfl rfl (Nat.le_of_ble_eq_true rfl)) (ct_Hall_checkAmount_2 (x := y) (lo := (-1)) (hi := 1000) hl1 hl2) ⟨(Nat.le_of_ble_eq_true rfl), (Nat.le_of_ble_eq_true rfl), (Nat.le_of_ble_eq_true rfl), (Nat.le_of_ble_eq_true rfl)⟩ ?_
  show sh_cW _ _ (_, _, []) K L _ _ _ _ _
  refine sh_cp (fun w Z k => sh_aload_n dc_Hall_acquire_22 rfl rfl k) ?_
  refine sh_cp (fun w Z k => sh_iload_n dc_Hall_acquire_23 rfl rfl k) ?_
  refine sh_ccall (fun w hw => sh_virt (As := [.int (nI s)]) dc_Hall_acquire_24 lm_Hall_syncAt ln_Hall_73 wd_272 wd_2 rfl rfl (Nat.le_of_ble_eq_true rfl) (hw _ _ cw_o0) rfl) (ct_Hall_syncAt_2 (s := s) (by omega) (cw_nz hk_s (by decide))) ⟨(Nat.le_of_ble_eq_true rfl), (Nat.le_of_ble_eq_true rfl), (Nat.le_of_ble_eq_true rfl), (Nat.le_of_ble_eq_true rfl)⟩ ?_
  show sh_cW _ _ (_, _, [.ref (A (20 + s))]) K L _ _ _ _ _
  refine sh_cp (fun w Z k => sh_astore dc_Hall_acquire_27 (by decide) k) ?_
  refine sh_cp (fun w Z k => sh_aload dc_Hall_acquire_29 rfl k) ?_
  refine sh_ccall (fun w hw => sh_stat (As := [.ref (A (10 + t))]) dc_Hall_acquire_31 lm_Hall_checkRunning ln_Hall_77 wd_463 wd_49 rfl rfl (Nat.le_of_ble_eq_true rfl)) (ct_Hall_checkRunning_1 (t := t) (by omega) hp) ⟨(Nat.le_of_ble_eq_true rfl), (Nat.le_of_ble_eq_true rfl), (Nat.le_of_ble_eq_true rfl), (Nat.le_of_ble_eq_true rfl)⟩ ?_
  show sh_cW _ _ (_, _, []) K L _ _ _ _ _
  refine sh_cp (fun w Z k => sh_aload dc_Hall_acquire_34 rfl k) ?_
  refine sh_ccall (fun w hw => sh_stat (As := [.ref (A (20 + s))]) dc_Hall_acquire_36 lm_Hall_gateOf ln_Hall_81 wd_471 wd_49 rfl rfl (Nat.le_of_ble_eq_true rfl)) (ct_Hall_gateOf_Latch_1 (s := s) (by omega) hk_s) ⟨(Nat.le_of_ble_eq_true rfl), (Nat.le_of_ble_eq_true rfl), (Nat.le_of_ble_eq_true rfl), (Nat.le_of_ble_eq_true rfl)⟩ ?_
  show sh_cW _ _ (_, _, [.ref (A (20 + s))]) K L _ _ _ _ _
  refine sh_cp (fun w Z k => sh_astore dc_Hall_acquire_39 (by decide) k) ?_
  refine sh_cp (fun w Z k => sh_aload dc_Hall_acquire_41 rfl k) ?_
  refine sh_ccall (fun w hw => sh_virt (As := []) dc_Hall_acquire_43 lm_Worker_dropFlag ln_Hall_85 wd_492 wd_5 rfl rfl (Nat.le_of_ble_eq_true rfl) (hw _ _ (cw_ow (by omega))) rfl) (ct_Worker_dropFlag_1 (t := t) (by omega) v0_43) ⟨(Nat.le_of_ble_eq_true rfl), (Nat.le_of_ble_eq_true rfl), (Nat.le_of_ble_eq_true rfl), (Nat.le_of_ble_eq_true rfl)⟩ ?_
  show sh_cW _ _ (_, _, [.int (K 2 t)]) (sh_u2 K 2 t 0) L _ _ _ _ _
  refine sh_cp (fun w Z k => sh_if_eq (tgt := 56) dc_Hall_acquire_46 (by decide) (fun _ => k) (fun z => absurd c1_46 z)) ?_
  refine sh_cp (fun w Z k => sh_aload_n dc_Hall_acquire_56 rfl rfl k) ?_
  refine sh_cp (fun w Z k => sh_aload dc_Hall_acquire_57 rfl k) ?_
  refine sh_cp (fun w Z k => sh_aload dc_Hall_acquire_59 rfl k) ?_
  refine sh_cp (fun w Z k => sh_iload_n dc_Hall_acquire_61 rfl rfl k) ?_
  refine sh_ccall (fun w hw => sh_virt (As := [.ref (A (10 + t)), .ref (A (20 + s)), .int (nI s)]) dc_Hall_acquire_62 lm_Hall_keepOrder ln_Hall_92 wd_500 wd_7 rfl rfl (Nat.le_of_ble_eq_true rfl) (hw _ _ cw_o0) rfl) (cl_kon_Latch (t := t) (s := s) (by omega) (by omega) (cw_okr_up (by decide) ho) ((congrArg cw_cl (sh_u2_row (by decide) _)).trans hk_s)) ⟨(Nat.le_of_ble_eq_true rfl), (Nat.le_of_ble_eq_true rfl), (Nat.le_of_ble_eq_true rfl), (Nat.le_of_ble_eq_true rfl)⟩ ?_
  show sh_cW _ _ (_, _, []) (sh_u2 K 2 t 0) L _ _ _ _ _
  refine sh_cp (fun w Z k => sh_aload dc_Hall_acquire_65 rfl k) ?_
  refine sh_cp (fun w Z k => sh_aload dc_Hall_acquire_67 rfl k) ?_
  refine sh_cp (fun w Z k => sh_iload_n dc_Hall_acquire_69 rfl rfl k) ?_
  refine sh_ccall (fun w hw => sh_virtU (As := [.ref (A (10 + t)), .int m]) dc_Hall_acquire_70 lm_Gate_checkWish wd_528 wd_530 (Or.inr ⟨_, _, _, wd_529, wd_540⟩) ⟨by decide, by decide⟩ (by decide +kernel) wd_529 wd_531 rfl rfl (Nat.le_of_ble_eq_true rfl) (hw _ _ (cw_oa (by omega) ((congrArg cw_cl (sh_u2_row (by decide) _)).trans hk_s))) rfl) (ct_Gate_checkWish_Latch_1 (t := t) (s := s) (m := m) (by omega) (by omega) ((congrArg cw_cl (sh_u2_row (by decide) _)).trans hk_s)) ⟨(Nat.le_of_ble_eq_true rfl), (Nat.le_of_ble_eq_true rfl), (Nat.le_of_ble_eq_true rfl), (Nat.le_of_ble_eq_true rfl)⟩ ?_
  show sh_cW _ _ (_, _, []) (sh_u2 K 2 t 0) L _ _ _ _ _
  refine sh_cp (fun w Z k => sh_aload dc_Hall_acquire_73 rfl k) ?_
  refine sh_cp (fun w Z k => sh_aload dc_Hall_acquire_75 rfl k) ?_
  refine sh_cp (fun w Z k => sh_iload_n dc_Hall_acquire_77 rfl rfl k) ?_
  refine sh_ccall (fun w hw => sh_virtU (As := [.ref (A (10 + t)), .int m]) dc_Hall_acquire_78 lm_Latch_mustQueue wd_541 wd_543 (Or.inl wd_542) ⟨by decide, by decide⟩ (by decide +kernel) wd_545 wd_544 rfl rfl (Nat.le_of_ble_eq_true rfl) (hw _ _ (cw_oa (by omega) ((congrArg cw_cl (sh_u2_row (by decide) _)).trans hk_s))) rfl) (cl_mq_Latch (s := s) (t := t) (m := m) (l := l) (by omega) (by omega) (cw_okr_up (by decide) ho) (cw_row_up (by decide) hr) hm ((congrArg cw_cl (sh_u2_row (by decide) _)).trans hk_s)) ⟨(Nat.le_of_ble_eq_true rfl), (Nat.le_of_ble_eq_true rfl), (Nat.le_of_ble_eq_true rfl), (Nat.le_of_ble_eq_true rfl)⟩ ?_
  show sh_cW _ _ (_, _, [.int (sp_b (sp_mq (sh_u2 K 2 t 0) t s m l))]) (sh_u2 K 2 t 0) L _ _ _ _ _
  refine sh_cp (fun w Z k => sh_if_ne (tgt := 111) dc_Hall_acquire_81 (by decide) (fun _ => k) (fun z => absurd z c2_81)) ?_
  refine sh_cp (fun w Z k => sh_dload dc_Hall_acquire_111 rfl k) ?_
  refine sh_cp (fun w Z k => sh_dconst0 dc_Hall_acquire_113 k) ?_
  refine sh_cp (fun w Z k => sh_dcmp dc_Hall_acquire_114 k) ?_
  refine sh_cp (fun w Z k => sh_if_ne (tgt := 125) dc_Hall_acquire_115 (by decide) (fun _ => k) (fun z => absurd z c3_115)) ?_
  refine sh_cp (fun w Z k => sh_aload dc_Hall_acquire_125 rfl k) ?_
  refine sh_cp (fun w Z k => sh_iconst (v := 1) dc_Hall_acquire_127 (by decide) k) ?_
  refine sh_cput (K1 := (sh_u2 (sh_u2 K 2 t 0) 9 t 1)) (L1 := L) (10 + t) 9 dc_Hall_acquire_128 (cw_ow (by omega)) rfl (by decide) fl_Hall_113 rfl rfl rfl rfl pd_I rfl rfl (cq_Worker_9 (by omega)) (fun i hi => cw_upI (by decide) hi) ?_
  refine sh_cp (fun w Z k => sh_aload dc_Hall_acquire_131 rfl k) ?_
  refine sh_cp (fun w Z k => sh_iconst (v := 1) dc_Hall_acquire_133 (by decide) k) ?_
  refine sh_cput (K1 := (sh_u2 (sh_u2 (sh_u2 K 2 t 0) 9 t 1) 10 t 1)) (L1 := L) (10 + t) 10 dc_Hall_acquire_134 (cw_ow (by omega)) rfl (by decide) fl_Hall_116 rfl rfl rfl rfl pd_I rfl rfl (cq_Worker_10 (by omega)) (fun i hi => cw_upI (by decide) hi) ?_
  refine sh_cp (fun w Z k => sh_aload dc_Hall_acquire_137 rfl k) ?_
  refine sh_cp (fun w Z k => sh_aload dc_Hall_acquire_139 rfl k) ?_
  refine sh_cp (fun w Z k => sh_iload_n dc_Hall_acquire_141 rfl rfl k) ?_
  refine sh_cp (fun w Z k => sh_aload_n dc_Hall_acquire_142 rfl rfl k) ?_
  refine sh_cget 0 4 dc_Hall_acquire_143 cw_o0 rfl (by decide) fl_Hall_35 rfl rfl rfl rfl ?_
  refine sh_ccall (fun w hw => sh_virtU (As := [.ref (A (10 + t)), .int m, .double (L 11 0)]) dc_Hall_acquire_146 lm_Sync_enqueue wd_604 wd_605 (Or.inl wd_606) ⟨by decide, by decide⟩ (by decide +kernel) wd_611 wd_607 rfl rfl (Nat.le_of_ble_eq_true rfl) (hw _ _ (cw_oa (by omega) ((congrArg cw_cl (Eq.trans (sh_u2_row (by decide) _) (Eq.trans (sh_u2_row (by decide) _) (sh_u2_row (by decide) _)))).trans hk_s))) rfl) (cl_enq_Latch (s := s) (t := t) (m := m) (a := L 11 0) (l := l) (by omega) (by omega) (cw_row_up (by decide) (cw_row_up (by decide) (cw_row_up (by decide) hr))) hlen ((congrArg cw_cl (Eq.trans (sh_u2_row (by decide) _) (Eq.trans (sh_u2_row (by decide) _) (sh_u2_row (by decide) _)))).trans hk_s)) ⟨(Nat.le_of_ble_eq_true rfl), (Nat.le_of_ble_eq_true rfl), (Nat.le_of_ble_eq_true rfl), (Nat.le_of_ble_eq_true rfl)⟩ ?_
  show sh_cW _ _ (_, _, []) (sp_enq (sh_u2 (sh_u2 (sh_u2 K 2 t 0) 9 t 1) 10 t 1) s t m l) (sh_u2 L 8 t (L 11 0)) _ _ _ _ _
  refine sh_cp (fun w Z k => sh_aload dc_Hall_acquire_149 rfl k) ?_
  refine sh_cp (fun w Z k => sh_aload_n dc_Hall_acquire_151 rfl rfl k) ?_
  refine sh_cget 0 4 dc_Hall_acquire_152 cw_o0 rfl (by decide) fl_Hall_35 rfl rfl rfl rfl ?_
  refine sh_ctd (show (sh_u2 L 8 t (L 11 0)) 11 0 = L 11 0 from (sh_u2_row (by decide) _)) ?_
  refine sh_cp (fun w Z k => sh_dload dc_Hall_acquire_155 rfl k) ?_
  refine sh_ccall (fun w hw => sh_virt (As := [.double (L 11 0), .double y]) dc_Hall_acquire_157 lm_Worker_setEnd ln_Hall_123 wd_619 wd_17 rfl rfl (Nat.le_of_ble_eq_true rfl) (hw _ _ (cw_ow (by omega))) rfl) (ct_Worker_setEnd_2 (t := t) (a := L 11 0) (b := y) (by omega) c4_157 v5_157) ⟨(Nat.le_of_ble_eq_true rfl), (Nat.le_of_ble_eq_true rfl), (Nat.le_of_ble_eq_true rfl), (Nat.le_of_ble_eq_true rfl)⟩ ?_
  show sh_cW _ _ (_, _, []) (sh_u2 (sp_enq (sh_u2 (sh_u2 (sh_u2 K 2 t 0) 9 t 1) 10 t 1) s t m l) 26 t 1) (sh_u2 (sh_u2 L 8 t (L 11 0)) 7 t (FP.dadd (L 11 0) y)) _ _ _ _ _
  refine sh_cp (fun w Z k => sh_aload dc_Hall_acquire_160 rfl k) ?_
  refine sh_cget (10 + t) 3 dc_Hall_acquire_162 (cw_ow (by omega)) rfl (by decide) fl_Hall_127 rfl rfl rfl rfl ?_
  exact sh_ce (fun w => sh_ireturn dc_Hall_acquire_165 rfl rfl (by decide) (by decide))
theorem ct_Hall_acquire_Latch_8 {A : Nat → Nat} {K : sh_II} {L : sh_DD} {t : Nat} {s : Nat} {m : Int32} {y : UInt64} {l : List Nat} (ht : t < 6) (hs : s < 8) (hm : m = 0 ∨ m = 1) (hl1 : ¬ (Op.cmpValue (FP.dcmp y (FP.i2d (-1))) .l) < 0) (hl2 : (Op.cmpValue (FP.dcmp y (FP.i2d 1000)) .g) ≤ 0) (hp : (K 5 t) = -1) (ho : cw_okr K) (hr : cw_row K s l) (hlen : l.length < 6) (hk_s : cw_cl (K 12 s) = 6) (v0_43 : narrow .boolean (.int (K 2 t)) = .int (K 2 t)) (c1_46 : ¬ (K 2 t) = 0) : sh_cM A md_Hall_acquire [.ref (A 0), .int (nI t), .int (nI s), .int m, .double y] K L (.inl (some (.int 3))) (sh_u2 (sh_u2 (sh_u2 K 2 t 0) 4 t 3) 27 t 0) L := by
  refine sh_cp (fun w Z k => sh_aload_n dc_Hall_acquire_0 rfl rfl k) ?_
  refine sh_cp (fun w Z k => sh_iload_n dc_Hall_acquire_1 rfl rfl k) ?_
  refine sh_ccall (fun w hw => sh_virt (As := [.int (nI t)]) dc_Hall_acquire_2 lm_Hall_workerAt ln_Hall_62 wd_448 wd_3 rfl rfl (Nat.le_of_ble_eq_true rfl) (hw _ _ cw_o0) rfl) (ct_Hall_workerAt_1 (t := t) (by omega)) ⟨(Nat.le_of_ble_eq_true rfl), (Nat.le_of_ble_eq_true rfl), (Nat.le_of_ble_eq_true rfl), (Nat.le_of_ble_eq_true rfl)⟩ ?_
  show sh_cW _ _ (_, _, [.ref (A (10 + t))]) K L _ _ _ _ _
  refine sh_cp (fun w Z k => sh_astore dc_Hall_acquire_5 (by decide) k) ?_
  refine sh_cp (fun w Z k => sh_iload_n dc_Hall_acquire_7 rfl rfl k) ?_
  refine sh_cp (fun w Z k => sh_iconst (v := 0) dc_Hall_acquire_8 (by decide) k) ?_
  refine sh_cp (fun w Z k => sh_iconst (v := 1) dc_Hall_acquire_9 (by decide) k) ?_
  refine sh_ccall (fun w hw => sh_stat (As := [.int m, .int 0, .int 1]) dc_Hall_acquire_10 lm_Hall_checkNumber ln_Hall_39 wd_191 wd_49 rfl rfl (Nat.le_of_ble_eq_true rfl)) (ct_Hall_checkNumber_2 (x := m) (lo := 0) (hi := 1) (sp_m0 hm) (sp_m1 hm)) ⟨(Nat.le_of_ble_eq_true rfl), (Nat.le_of_ble_eq_true rfl), (Nat.le_of_ble_eq_true rfl), (Nat.le_of_ble_eq_true rfl)⟩ ?_
  show sh_cW _ _ (_, _, []) K L _ _ _ _ _
  refine sh_cp (fun w Z k => sh_dload dc_Hall_acquire_13 rfl k) ?_
  refine sh_cp (fun w Z k => sh_iconst (v := (-1)) dc_Hall_acquire_15 (by decide) k) ?_
  refine sh_cp (fun w Z k => sh_sipush (v := 1000) dc_Hall_acquire_16 (by decide) k) ?_
  refine sh_ccall (fun w hw => sh_stat (As := [.double y, .int (-1), .int 1000]) dc_Hall_acquire_19 lm_Hall_checkAmount ln_Hall_66 wd_451 wd_49 rfl rfl (Nat.le_of_ble_eq_true rfl)) (ct_Hall_checkAmount_2 (x := y) (lo := (-1)) (hi := 1000) hl1 hl2) ⟨(Nat.le_of_ble_eq_true rfl), (Nat.le_of_ble_eq_true rfl), (Nat.le_of_ble_eq_true rfl), (Nat.le_of_ble_eq_true rfl)⟩ ?_
  show sh_cW _ _ (_, _, []) K L _ _ _ _ _
  refine sh_cp (fun w Z k => sh_aload_n dc_Hall_acquire_22 rfl rfl k) ?_
  refine sh_cp (fun w Z k => sh_iload_n dc_Hall_acquire_23 rfl rfl k) ?_
  refine sh_ccall (fun w hw => sh_virt (As := [.int (nI s)]) dc_Hall_acquire_24 lm_Hall_syncAt ln_Hall_73 wd_272 wd_2 rfl rfl (Nat.le_of_ble_eq_true rfl) (hw _ _ cw_o0) rfl) (ct_Hall_syncAt_2 (s := s) (by omega) (cw_nz hk_s (by decide))) ⟨(Nat.le_of_ble_eq_true rfl), (Nat.le_of_ble_eq_true rfl), (Nat.le_of_ble_eq_true rfl), (Nat.le_of_ble_eq_true rfl)⟩ ?_
  show sh_cW _ _ (_, _, [.ref (A (20 + s))]) K L _ _ _ _ _
  refine sh_cp (fun w Z k => sh_astore dc_Hall_acquire_27 (by decide) k) ?_
  refine sh_cp (fun w Z k => sh_aload dc_Hall_acquire_29 rfl k) ?_
  refine sh_ccall (fun w hw => sh_stat (As := [.ref (A (10 + t))]) dc_Hall_acquire_31 lm_Hall_checkRunning ln_Hall_77 wd_463 wd_49 rfl rfl (Nat.le_of_ble_eq_true rfl)) (ct_Hall_checkRunning_1 (t := t) (by omega) hp) ⟨(Nat.le_of_ble_eq_true rfl), (Nat.le_of_ble_eq_true rfl), (Nat.le_of_ble_eq_true rfl), (Nat.le_of_ble_eq_true rfl)⟩ ?_
  show sh_cW _ _ (_, _, []) K L _ _ _ _ _
  refine sh_cp (fun w Z k => sh_aload dc_Hall_acquire_34 rfl k) ?_
  refine sh_ccall (fun w hw => sh_stat (As := [.ref (A (20 + s))]) dc_Hall_acquire_36 lm_Hall_gateOf ln_Hall_81 wd_471 wd_49 rfl rfl (Nat.le_of_ble_eq_true rfl)) (ct_Hall_gateOf_Latch_1 (s := s) (by omega) hk_s) ⟨(Nat.le_of_ble_eq_true rfl), (Nat.le_of_ble_eq_true rfl), (Nat.le_of_ble_eq_true rfl), (Nat.le_of_ble_eq_true rfl)⟩ ?_
  show sh_cW _ _ (_, _, [.ref (A (20 + s))]) K L _ _ _ _ _
  refine sh_cp (fun w Z k => sh_astore dc_Hall_acquire_39 (by decide) k) ?_
  refine sh_cp (fun w Z k => sh_aload dc_Hall_acquire_41 rfl k) ?_
  refine sh_ccall (fun w hw => sh_virt (As := []) dc_Hall_acquire_43 lm_Worker_dropFlag ln_Hall_85 wd_492 wd_5 rfl rfl (Nat.le_of_ble_eq_true rfl) (hw _ _ (cw_ow (by omega))) rfl) (ct_Worker_dropFlag_1 (t := t) (by omega) v0_43) ⟨(Nat.le_of_ble_eq_true rfl), (Nat.le_of_ble_eq_true rfl), (Nat.le_of_ble_eq_true rfl), (Nat.le_of_ble_eq_true rfl)⟩ ?_
  show sh_cW _ _ (_, _, [.int (K 2 t)]) (sh_u2 K 2 t 0) L _ _ _ _ _
  refine sh_cp (fun w Z k => sh_if_eq (tgt := 56) dc_Hall_acquire_46 (by decide) (fun z => absurd z c1_46) (fun _ => k)) ?_
  refine sh_cp (fun w Z k => sh_aload dc_Hall_acquire_49 rfl k) ?_
  refine sh_cp (fun w Z k => sh_iconst (v := 3) dc_Hall_acquire_51 (by decide) k) ?_
  refine sh_ccall (fun w hw => sh_virt (As := [.int 3]) dc_Hall_acquire_52 lm_Worker_finish ln_Hall_89 wd_496 wd_6 rfl rfl (Nat.le_of_ble_eq_true rfl) (hw _ _ (cw_ow (by omega))) rfl) (ct_Worker_finish_1 (t := t) (x := 3) (by omega)) ⟨(Nat.le_of_ble_eq_true rfl), (Nat.le_of_ble_eq_true rfl), (Nat.le_of_ble_eq_true rfl), (Nat.le_of_ble_eq_true rfl)⟩ ?_
  show sh_cW _ _ (_, _, [.int 3]) (sh_u2 (sh_u2 (sh_u2 K 2 t 0) 4 t 3) 27 t 0) L _ _ _ _ _
  exact sh_ce (fun w => sh_ireturn dc_Hall_acquire_55 rfl rfl (by decide) (by decide))
theorem ct_Hall_acquire_Shared_1 {A : Nat → Nat} {K : sh_II} {L : sh_DD} {t : Nat} {s : Nat} {m : Int32} {y : UInt64} {l : List Nat} (ht : t < 6) (hs : s < 8) (hm : m = 0 ∨ m = 1) (hl1 : ¬ (Op.cmpValue (FP.dcmp y (FP.i2d (-1))) .l) < 0) (hl2 : (Op.cmpValue (FP.dcmp y (FP.i2d 1000)) .g) ≤ 0) (hp : (K 5 t) = -1) (ho : cw_okr K) (hr : cw_row K s l) (hlen : l.length < 6) (hk_s : cw_cl (K 12 s) = 7) (v0_43 : narrow .boolean (.int (K 2 t)) = .int (K 2 t)) (c1_46 : (K 2 t) = 0) (c2_70 : sp_cw (sh_u2 K 2 t 0) t s m = true) : sh_cM A md_Hall_acquire [.ref (A 0), .int (nI t), .int (nI s), .int m, .double y] K L (.inr 4) (sh_u2 K 2 t 0) L := by
  refine sh_cp (fun w Z k => sh_aload_n dc_Hall_acquire_0 rfl rfl k) ?_
  refine sh_cp (fun w Z k => sh_iload_n dc_Hall_acquire_1 rfl rfl k) ?_
  refine sh_ccall (fun w hw => sh_virt (As := [.int (nI t)]) dc_Hall_acquire_2 lm_Hall_workerAt ln_Hall_62 wd_448 wd_3 rfl rfl (Nat.le_of_ble_eq_true rfl) (hw _ _ cw_o0) rfl) (ct_Hall_workerAt_1 (t := t) (by omega)) ⟨(Nat.le_of_ble_eq_true rfl), (Nat.le_of_ble_eq_true rfl), (Nat.le_of_ble_eq_true rfl), (Nat.le_of_ble_eq_true rfl)⟩ ?_
  show sh_cW _ _ (_, _, [.ref (A (10 + t))]) K L _ _ _ _ _
  refine sh_cp (fun w Z k => sh_astore dc_Hall_acquire_5 (by decide) k) ?_
  refine sh_cp (fun w Z k => sh_iload_n dc_Hall_acquire_7 rfl rfl k) ?_
  refine sh_cp (fun w Z k => sh_iconst (v := 0) dc_Hall_acquire_8 (by decide) k) ?_
  refine sh_cp (fun w Z k => sh_iconst (v := 1) dc_Hall_acquire_9 (by decide) k) ?_
  refine sh_ccall (fun w hw => sh_stat (As := [.int m, .int 0, .int 1]) dc_Hall_acquire_10 lm_Hall_checkNumber ln_Hall_39 wd_191 wd_49 rfl rfl (Nat.le_of_ble_eq_true rfl)) (ct_Hall_checkNumber_2 (x := m) (lo := 0) (hi := 1) (sp_m0 hm) (sp_m1 hm)) ⟨(Nat.le_of_ble_eq_true rfl), (Nat.le_of_ble_eq_true rfl), (Nat.le_of_ble_eq_true rfl), (Nat.le_of_ble_eq_true rfl)⟩ ?_
  show sh_cW _ _ (_, _, []) K L _ _ _ _ _
  refine sh_cp (fun w Z k => sh_dload dc_Hall_acquire_13 rfl k) ?_
  refine sh_cp (fun w Z k => sh_iconst (v := (-1)) dc_Hall_acquire_15 (by decide) k) ?_
  refine sh_cp (fun w Z k => sh_sipush (v := 1000) dc_Hall_acquire_16 (by decide) k) ?_
  refine sh_ccall (fun w hw => sh_stat (As := [.double y, .int (-1), .int 1000]) dc_Hall_acquire_19 lm_Hall_checkAmount ln_Hall_66 wd_451 wd_49 rfl rfl (Nat.le_of_ble_eq_true rfl)) (ct_Hall_checkAmount_2 (x := y) (lo := (-1)) (hi := 1000) hl1 hl2) ⟨(Nat.le_of_ble_eq_true rfl), (Nat.le_of_ble_eq_true rfl), (Nat.le_of_ble_eq_true rfl), (Nat.le_of_ble_eq_true rfl)⟩ ?_
  show sh_cW _ _ (_, _, []) K L _ _ _ _ _
  refine sh_cp (fun w Z k => sh_aload_n dc_Hall_acquire_22 rfl rfl k) ?_
  refine sh_cp (fun w Z k => sh_iload_n dc_Hall_acquire_23 rfl rfl k) ?_
  refine sh_ccall (fun w hw => sh_virt (As := [.int (nI s)]) dc_Hall_acquire_24 lm_Hall_syncAt ln_Hall_73 wd_272 wd_2 rfl rfl (Nat.le_of_ble_eq_true rfl) (hw _ _ cw_o0) rfl) (ct_Hall_syncAt_2 (s := s) (by omega) (cw_nz hk_s (by decide))) ⟨(Nat.le_of_ble_eq_true rfl), (Nat.le_of_ble_eq_true rfl), (Nat.le_of_ble_eq_true rfl), (Nat.le_of_ble_eq_true rfl)⟩ ?_
  show sh_cW _ _ (_, _, [.ref (A (20 + s))]) K L _ _ _ _ _
  refine sh_cp (fun w Z k => sh_astore dc_Hall_acquire_27 (by decide) k) ?_
  refine sh_cp (fun w Z k => sh_aload dc_Hall_acquire_29 rfl k) ?_
  refine sh_ccall (fun w hw => sh_stat (As := [.ref (A (10 + t))]) dc_Hall_acquire_31 lm_Hall_checkRunning ln_Hall_77 wd_463 wd_49 rfl rfl (Nat.le_of_ble_eq_true rfl)) (ct_Hall_checkRunning_1 (t := t) (by omega) hp) ⟨(Nat.le_of_ble_eq_true rfl), (Nat.le_of_ble_eq_true rfl), (Nat.le_of_ble_eq_true rfl), (Nat.le_of_ble_eq_true rfl)⟩ ?_
  show sh_cW _ _ (_, _, []) K L _ _ _ _ _
  refine sh_cp (fun w Z k => sh_aload dc_Hall_acquire_34 rfl k) ?_
  refine sh_ccall (fun w hw => sh_stat (As := [.ref (A (20 + s))]) dc_Hall_acquire_36 lm_Hall_gateOf ln_Hall_81 wd_471 wd_49 rfl rfl (Nat.le_of_ble_eq_true rfl)) (ct_Hall_gateOf_Shared_1 (s := s) (by omega) hk_s) ⟨(Nat.le_of_ble_eq_true rfl), (Nat.le_of_ble_eq_true rfl), (Nat.le_of_ble_eq_true rfl), (Nat.le_of_ble_eq_true rfl)⟩ ?_
  show sh_cW _ _ (_, _, [.ref (A (20 + s))]) K L _ _ _ _ _
  refine sh_cp (fun w Z k => sh_astore dc_Hall_acquire_39 (by decide) k) ?_
  refine sh_cp (fun w Z k => sh_aload dc_Hall_acquire_41 rfl k) ?_
  refine sh_ccall (fun w hw => sh_virt (As := []) dc_Hall_acquire_43 lm_Worker_dropFlag ln_Hall_85 wd_492 wd_5 rfl rfl (Nat.le_of_ble_eq_true rfl) (hw _ _ (cw_ow (by omega))) rfl) (ct_Worker_dropFlag_1 (t := t) (by omega) v0_43) ⟨(Nat.le_of_ble_eq_true rfl), (Nat.le_of_ble_eq_true rfl), (Nat.le_of_ble_eq_true rfl), (Nat.le_of_ble_eq_true rfl)⟩ ?_
  show sh_cW _ _ (_, _, [.int (K 2 t)]) (sh_u2 K 2 t 0) L _ _ _ _ _
  refine sh_cp (fun w Z k => sh_if_eq (tgt := 56) dc_Hall_acquire_46 (by decide) (fun _ => k) (fun z => absurd c1_46 z)) ?_
  refine sh_cp (fun w Z k => sh_aload_n dc_Hall_acquire_56 rfl rfl k) ?_
  refine sh_cp (fun w Z k => sh_aload dc_Hall_acquire_57 rfl k) ?_
  refine sh_cp (fun w Z k => sh_aload dc_Hall_acquire_59 rfl k) ?_
  refine sh_cp (fun w Z k => sh_iload_n dc_Hall_acquire_61 rfl rfl k) ?_
  refine sh_ccall (fun w hw => sh_virt (As := [.ref (A (10 + t)), .ref (A (20 + s)), .int (nI s)]) dc_Hall_acquire_62 lm_Hall_keepOrder ln_Hall_92 wd_500 wd_7 rfl rfl (Nat.le_of_ble_eq_true rfl) (hw _ _ cw_o0) rfl) (cl_kon_Shared (t := t) (s := s) (by omega) (by omega) (cw_okr_up (by decide) ho) ((congrArg cw_cl (sh_u2_row (by decide) _)).trans hk_s)) ⟨(Nat.le_of_ble_eq_true rfl), (Nat.le_of_ble_eq_true rfl), (Nat.le_of_ble_eq_true rfl), (Nat.le_of_ble_eq_true rfl)⟩ ?_
  show sh_cW _ _ (_, _, []) (sh_u2 K 2 t 0) L _ _ _ _ _
  refine sh_cp (fun w Z k => sh_aload dc_Hall_acquire_65 rfl k) ?_
  refine sh_cp (fun w Z k => sh_aload dc_Hall_acquire_67 rfl k) ?_
  refine sh_cp (fun w Z k => sh_iload_n dc_Hall_acquire_69 rfl rfl k) ?_
  exact sh_ccallT (fun w hw => sh_virtU (As := [.ref (A (10 + t)), .int m]) dc_Hall_acquire_70 lm_Shared_checkWish wd_528 wd_530 (Or.inr ⟨_, _, _, wd_529, wd_540⟩) ⟨by decide, by decide⟩ (by decide +kernel) wd_535 wd_534 rfl rfl (Nat.le_of_ble_eq_true rfl) (hw _ _ (cw_oh (by omega) ((congrArg cw_cl (sh_u2_row (by decide) _)).trans hk_s))) rfl) (cl_cw_t (t := t) (s := s) (m := m) (by omega) (by omega) (cw_okr_up (by decide) ho) ((congrArg cw_cl (sh_u2_row (by decide) _)).trans hk_s) c2_70) ⟨(Nat.le_of_ble_eq_true rfl), (Nat.le_of_ble_eq_true rfl), (Nat.le_of_ble_eq_true rfl), (Nat.le_of_ble_eq_true rfl)⟩ rfl
theorem ct_Hall_acquire_Shared_2 {A : Nat → Nat} {K : sh_II} {L : sh_DD} {t : Nat} {s : Nat} {m : Int32} {y : UInt64} {l : List Nat} (ht : t < 6) (hs : s < 8) (hm : m = 0 ∨ m = 1) (hl1 : ¬ (Op.cmpValue (FP.dcmp y (FP.i2d (-1))) .l) < 0) (hl2 : (Op.cmpValue (FP.dcmp y (FP.i2d 1000)) .g) ≤ 0) (hp : (K 5 t) = -1) (ho : cw_okr K) (hr : cw_row K s l) (hlen : l.length < 6) (hk_s : cw_cl (K 12 s) = 7) (v0_43 : narrow .boolean (.int (K 2 t)) = .int (K 2 t)) (c1_46 : (K 2 t) = 0) (c2_70 : ¬ sp_cw (sh_u2 K 2 t 0) t s m = true) (c3_81 : (sp_b (sp_mq (sh_u2 K 2 t 0) t s m l)) = 0) (c4_92 : (sp_b (sp_can (sh_u2 K 2 t 0) t s m)) = 0) (c5_115 : (Op.cmpValue (FP.dcmp y FP.dconst0) .l) = 0) : sh_cM A md_Hall_acquire [.ref (A 0), .int (nI t), .int (nI s), .int m, .double y] K L (.inl (some (.int 2))) (sh_u2 (sh_u2 (sh_u2 K 2 t 0) 4 t 2) 27 t 0) L := by
  refine sh_cp (fun w Z k => sh_aload_n dc_Hall_acquire_0 rfl rfl k) ?_
  refine sh_cp (fun w Z k => sh_iload_n dc_Hall_acquire_1 rfl rfl k) ?_
  refine sh_ccall (fun w hw => sh_virt (As := [.int (nI t)]) dc_Hall_acquire_2 lm_Hall_workerAt ln_Hall_62 wd_448 wd_3 rfl rfl (Nat.le_of_ble_eq_true rfl) (hw _ _ cw_o0) rfl) (ct_Hall_workerAt_1 (t := t) (by omega)) ⟨(Nat.le_of_ble_eq_true rfl), (Nat.le_of_ble_eq_true rfl), (Nat.le_of_ble_eq_true rfl), (Nat.le_of_ble_eq_true rfl)⟩ ?_
  show sh_cW _ _ (_, _, [.ref (A (10 + t))]) K L _ _ _ _ _
  refine sh_cp (fun w Z k => sh_astore dc_Hall_acquire_5 (by decide) k) ?_
  refine sh_cp (fun w Z k => sh_iload_n dc_Hall_acquire_7 rfl rfl k) ?_
  refine sh_cp (fun w Z k => sh_iconst (v := 0) dc_Hall_acquire_8 (by decide) k) ?_
  refine sh_cp (fun w Z k => sh_iconst (v := 1) dc_Hall_acquire_9 (by decide) k) ?_
  refine sh_ccall (fun w hw => sh_stat (As := [.int m, .int 0, .int 1]) dc_Hall_acquire_10 lm_Hall_checkNumber ln_Hall_39 wd_191 wd_49 rfl rfl (Nat.le_of_ble_eq_true rfl)) (ct_Hall_checkNumber_2 (x := m) (lo := 0) (hi := 1) (sp_m0 hm) (sp_m1 hm)) ⟨(Nat.le_of_ble_eq_true rfl), (Nat.le_of_ble_eq_true rfl), (Nat.le_of_ble_eq_true rfl), (Nat.le_of_ble_eq_true rfl)⟩ ?_
  show sh_cW _ _ (_, _, []) K L _ _ _ _ _
  refine sh_cp (fun w Z k => sh_dload dc_Hall_acquire_13 rfl k) ?_
  refine sh_cp (fun w Z k => sh_iconst (v := (-1)) dc_Hall_acquire_15 (by decide) k) ?_
  refine sh_cp (fun w Z k => sh_sipush (v := 1000) dc_Hall_acquire_16 (by decide) k) ?_
  refine sh_ccall (fun w hw => sh_stat (As := [.double y, .int (-1), .int 1000]) dc_Hall_acquire_19 lm_Hall_checkAmount ln_Hall_66 wd_451 wd_49 rfl rfl (Nat.le_of_ble_eq_true rfl)) (ct_Hall_checkAmount_2 (x := y) (lo := (-1)) (hi := 1000) hl1 hl2) ⟨(Nat.le_of_ble_eq_true rfl), (Nat.le_of_ble_eq_true rfl), (Nat.le_of_ble_eq_true rfl), (Nat.le_of_ble_eq_true rfl)⟩ ?_
  show sh_cW _ _ (_, _, []) K L _ _ _ _ _
  refine sh_cp (fun w Z k => sh_aload_n dc_Hall_acquire_22 rfl rfl k) ?_
  refine sh_cp (fun w Z k => sh_iload_n dc_Hall_acquire_23 rfl rfl k) ?_
  refine sh_ccall (fun w hw => sh_virt (As := [.int (nI s)]) dc_Hall_acquire_24 lm_Hall_syncAt ln_Hall_73 wd_272 wd_2 rfl rfl (Nat.le_of_ble_eq_true rfl) (hw _ _ cw_o0) rfl) (ct_Hall_syncAt_2 (s := s) (by omega) (cw_nz hk_s (by decide))) ⟨(Nat.le_of_ble_eq_true rfl), (Nat.le_of_ble_eq_true rfl), (Nat.le_of_ble_eq_true rfl), (Nat.le_of_ble_eq_true rfl)⟩ ?_
  show sh_cW _ _ (_, _, [.ref (A (20 + s))]) K L _ _ _ _ _
  refine sh_cp (fun w Z k => sh_astore dc_Hall_acquire_27 (by decide) k) ?_
  refine sh_cp (fun w Z k => sh_aload dc_Hall_acquire_29 rfl k) ?_
  refine sh_ccall (fun w hw => sh_stat (As := [.ref (A (10 + t))]) dc_Hall_acquire_31 lm_Hall_checkRunning ln_Hall_77 wd_463 wd_49 rfl rfl (Nat.le_of_ble_eq_true rfl)) (ct_Hall_checkRunning_1 (t := t) (by omega) hp) ⟨(Nat.le_of_ble_eq_true rfl), (Nat.le_of_ble_eq_true rfl), (Nat.le_of_ble_eq_true rfl), (Nat.le_of_ble_eq_true rfl)⟩ ?_
  show sh_cW _ _ (_, _, []) K L _ _ _ _ _
  refine sh_cp (fun w Z k => sh_aload dc_Hall_acquire_34 rfl k) ?_
  refine sh_ccall (fun w hw => sh_stat (As := [.ref (A (20 + s))]) dc_Hall_acquire_36 lm_Hall_gateOf ln_Hall_81 wd_471 wd_49 rfl rfl (Nat.le_of_ble_eq_true rfl)) (ct_Hall_gateOf_Shared_1 (s := s) (by omega) hk_s) ⟨(Nat.le_of_ble_eq_true rfl), (Nat.le_of_ble_eq_true rfl), (Nat.le_of_ble_eq_true rfl), (Nat.le_of_ble_eq_true rfl)⟩ ?_
  show sh_cW _ _ (_, _, [.ref (A (20 + s))]) K L _ _ _ _ _
  refine sh_cp (fun w Z k => sh_astore dc_Hall_acquire_39 (by decide) k) ?_
  refine sh_cp (fun w Z k => sh_aload dc_Hall_acquire_41 rfl k) ?_
  refine sh_ccall (fun w hw => sh_virt (As := []) dc_Hall_acquire_43 lm_Worker_dropFlag ln_Hall_85 wd_492 wd_5 rfl rfl (Nat.le_of_ble_eq_true rfl) (hw _ _ (cw_ow (by omega))) rfl) (ct_Worker_dropFlag_1 (t := t) (by omega) v0_43) ⟨(Nat.le_of_ble_eq_true rfl), (Nat.le_of_ble_eq_true rfl), (Nat.le_of_ble_eq_true rfl), (Nat.le_of_ble_eq_true rfl)⟩ ?_
  show sh_cW _ _ (_, _, [.int (K 2 t)]) (sh_u2 K 2 t 0) L _ _ _ _ _
  refine sh_cp (fun w Z k => sh_if_eq (tgt := 56) dc_Hall_acquire_46 (by decide) (fun _ => k) (fun z => absurd c1_46 z)) ?_
  refine sh_cp (fun w Z k => sh_aload_n dc_Hall_acquire_56 rfl rfl k) ?_
  refine sh_cp (fun w Z k => sh_aload dc_Hall_acquire_57 rfl k) ?_
  refine sh_cp (fun w Z k => sh_aload dc_Hall_acquire_59 rfl k) ?_
  refine sh_cp (fun w Z k => sh_iload_n dc_Hall_acquire_61 rfl rfl k) ?_
  refine sh_ccall (fun w hw => sh_virt (As := [.ref (A (10 + t)), .ref (A (20 + s)), .int (nI s)]) dc_Hall_acquire_62 lm_Hall_keepOrder ln_Hall_92 wd_500 wd_7 rfl rfl (Nat.le_of_ble_eq_true rfl) (hw _ _ cw_o0) rfl) (cl_kon_Shared (t := t) (s := s) (by omega) (by omega) (cw_okr_up (by decide) ho) ((congrArg cw_cl (sh_u2_row (by decide) _)).trans hk_s)) ⟨(Nat.le_of_ble_eq_true rfl), (Nat.le_of_ble_eq_true rfl), (Nat.le_of_ble_eq_true rfl), (Nat.le_of_ble_eq_true rfl)⟩ ?_
  show sh_cW _ _ (_, _, []) (sh_u2 K 2 t 0) L _ _ _ _ _
  refine sh_cp (fun w Z k => sh_aload dc_Hall_acquire_65 rfl k) ?_
  refine sh_cp (fun w Z k => sh_aload dc_Hall_acquire_67 rfl k) ?_
  refine sh_cp (fun w Z k => sh_iload_n dc_Hall_acquire_69 rfl rfl k) ?_
  refine sh_ccall (fun w hw => sh_virtU (As := [.ref (A (10 + t)), .int m]) dc_Hall_acquire_70 lm_Shared_checkWish wd_528 wd_530 (Or.inr ⟨_, _, _, wd_529, wd_540⟩) ⟨by decide, by decide⟩ (by decide +kernel) wd_535 wd_534 rfl rfl (Nat.le_of_ble_eq_true rfl) (hw _ _ (cw_oh (by omega) ((congrArg cw_cl (sh_u2_row (by decide) _)).trans hk_s))) rfl) (cl_cw (t := t) (s := s) (m := m) (by omega) (by omega) (cw_okr_up (by decide) ho) ((congrArg cw_cl (sh_u2_row (by decide) _)).trans hk_s) c2_70) ⟨(Nat.le_of_ble_eq_true rfl), (Nat.le_of_ble_eq_true rfl), (Nat.le_of_ble_eq_true rfl), (Nat.le_of_ble_eq_true rfl)⟩ ?_
  show sh_cW _ _ (_, _, []) (sh_u2 K 2 t 0) L _ _ _ _ _
  refine sh_cp (fun w Z k => sh_aload dc_Hall_acquire_73 rfl k) ?_
  refine sh_cp (fun w Z k => sh_aload dc_Hall_acquire_75 rfl k) ?_
  refine sh_cp (fun w Z k => sh_iload_n dc_Hall_acquire_77 rfl rfl k) ?_
  refine sh_ccall (fun w hw => sh_virtU (As := [.ref (A (10 + t)), .int m]) dc_Hall_acquire_78 lm_Shared_mustQueue wd_541 wd_543 (Or.inl wd_542) ⟨by decide, by decide⟩ (by decide +kernel) wd_563 wd_562 rfl rfl (Nat.le_of_ble_eq_true rfl) (hw _ _ (cw_oh (by omega) ((congrArg cw_cl (sh_u2_row (by decide) _)).trans hk_s))) rfl) (cl_mq_Shared (s := s) (t := t) (m := m) (l := l) (by omega) (by omega) (cw_okr_up (by decide) ho) (cw_row_up (by decide) hr) hm ((congrArg cw_cl (sh_u2_row (by decide) _)).trans hk_s)) ⟨(Nat.le_of_ble_eq_true rfl), (Nat.le_of_ble_eq_true rfl), (Nat.le_of_ble_eq_true rfl), (Nat.le_of_ble_eq_true rfl)⟩ ?_
  show sh_cW _ _ (_, _, [.int (sp_b (sp_mq (sh_u2 K 2 t 0) t s m l))]) (sh_u2 K 2 t 0) L _ _ _ _ _
  refine sh_cp (fun w Z k => sh_if_ne (tgt := 111) dc_Hall_acquire_81 (by decide) (fun z => absurd c3_81 z) (fun _ => k)) ?_
  refine sh_cp (fun w Z k => sh_aload dc_Hall_acquire_84 rfl k) ?_
  refine sh_cp (fun w Z k => sh_aload dc_Hall_acquire_86 rfl k) ?_
  refine sh_cp (fun w Z k => sh_iload_n dc_Hall_acquire_88 rfl rfl k) ?_
  refine sh_ccall (fun w hw => sh_virtU (As := [.ref (A (10 + t)), .int m]) dc_Hall_acquire_89 lm_Shared_canTake wd_570 wd_572 (Or.inl wd_571) ⟨by decide, by decide⟩ (by decide +kernel) wd_583 wd_582 rfl rfl (Nat.le_of_ble_eq_true rfl) (hw _ _ (cw_oh (by omega) ((congrArg cw_cl (sh_u2_row (by decide) _)).trans hk_s))) rfl) (cl_can_Shared (s := s) (t := t) (m := m) (by omega) (by omega) (cw_okr_up (by decide) ho) hm ((congrArg cw_cl (sh_u2_row (by decide) _)).trans hk_s)) ⟨(Nat.le_of_ble_eq_true rfl), (Nat.le_of_ble_eq_true rfl), (Nat.le_of_ble_eq_true rfl), (Nat.le_of_ble_eq_true rfl)⟩ ?_
  show sh_cW _ _ (_, _, [.int (sp_b (sp_can (sh_u2 K 2 t 0) t s m))]) (sh_u2 K 2 t 0) L _ _ _ _ _
  refine sh_cp (fun w Z k => sh_if_eq (tgt := 111) dc_Hall_acquire_92 (by decide) (fun _ => k) (fun z => absurd c4_92 z)) ?_
  refine sh_cp (fun w Z k => sh_dload dc_Hall_acquire_111 rfl k) ?_
  refine sh_cp (fun w Z k => sh_dconst0 dc_Hall_acquire_113 k) ?_
  refine sh_cp (fun w Z k => sh_dcmp dc_Hall_acquire_114 k) ?_
  refine sh_cp (fun w Z k => sh_if_ne (tgt := 125) dc_Hall_acquire_115 (by decide) (fun z => absurd c5_115 z) (fun _ => k)) ?_
  refine sh_cp (fun w Z k => sh_aload dc_Hall_acquire_118 rfl k) ?_
  refine sh_cp (fun w Z k => sh_iconst (v := 2) dc_Hall_acquire_120 (by decide) k) ?_
  refine sh_ccall (fun w hw => sh_virt (As := [.int 2]) dc_Hall_acquire_121 lm_Worker_finish ln_Hall_89 wd_496 wd_6 rfl rfl (Nat.le_of_ble_eq_true rfl) (hw _ _ (cw_ow (by omega))) rfl) (ct_Worker_finish_1 (t := t) (x := 2) (by omega)) ⟨(Nat.le_of_ble_eq_true rfl), (Nat.le_of_ble_eq_true rfl), (Nat.le_of_ble_eq_true rfl), (Nat.le_of_ble_eq_true rfl)⟩ ?_
  show sh_cW _ _ (_, _, [.int 2]) (sh_u2 (sh_u2 (sh_u2 K 2 t 0) 4 t 2) 27 t 0) L _ _ _ _ _
  exact sh_ce (fun w => sh_ireturn dc_Hall_acquire_124 rfl rfl (by decide) (by decide))
theorem ct_Hall_acquire_Shared_3 {A : Nat → Nat} {K : sh_II} {L : sh_DD} {t : Nat} {s : Nat} {m : Int32} {y : UInt64} {l : List Nat} (ht : t < 6) (hs : s < 8) (hm : m = 0 ∨ m = 1) (hl1 : ¬ (Op.cmpValue (FP.dcmp y (FP.i2d (-1))) .l) < 0) (hl2 : (Op.cmpValue (FP.dcmp y (FP.i2d 1000)) .g) ≤ 0) (hp : (K 5 t) = -1) (ho : cw_okr K) (hr : cw_row K s l) (hlen : l.length < 6) (hk_s : cw_cl (K 12 s) = 7) (v0_43 : narrow .boolean (.int (K 2 t)) = .int (K 2 t)) (c1_46 : (K 2 t) = 0) (c2_70 : ¬ sp_cw (sh_u2 K 2 t 0) t s m = true) (c3_81 : (sp_b (sp_mq (sh_u2 K 2 t 0) t s m l)) = 0) (c4_92 : (sp_b (sp_can (sh_u2 K 2 t 0) t s m)) = 0) (c5_115 : ¬ (Op.cmpValue (FP.dcmp y FP.dconst0) .l) = 0) (c6_157 : (Op.cmpValue (FP.dcmp y FP.dconst0) .l) ≤ 0) : sh_cM A md_Hall_acquire [.ref (A 0), .int (nI t), .int (nI s), .int m, .double y] K L (.inl (some (.int ((sp_enq (sh_u2 (sh_u2 (sh_u2 K 2 t 0) 9 t 1) 10 t 1) s t m l) 4 t)))) (sp_enq (sh_u2 (sh_u2 (sh_u2 K 2 t 0) 9 t 1) 10 t 1) s t m l) (sh_u2 L 8 t (L 11 0)) := by
  refine sh_cp (fun w Z k => sh_aload_n dc_Hall_acquire_0 rfl rfl k) ?_
  refine sh_cp (fun w Z k => sh_iload_n dc_Hall_acquire_1 rfl rfl k) ?_
  refine sh_ccall (fun w hw => sh_virt (As := [.int (nI t)]) dc_Hall_acquire_2 lm_Hall_workerAt ln_Hall_62 wd_448 wd_3 rfl rfl (Nat.le_of_ble_eq_true rfl) (hw _ _ cw_o0) rfl) (ct_Hall_workerAt_1 (t := t) (by omega)) ⟨(Nat.le_of_ble_eq_true rfl), (Nat.le_of_ble_eq_true rfl), (Nat.le_of_ble_eq_true rfl), (Nat.le_of_ble_eq_true rfl)⟩ ?_
  show sh_cW _ _ (_, _, [.ref (A (10 + t))]) K L _ _ _ _ _
  refine sh_cp (fun w Z k => sh_astore dc_Hall_acquire_5 (by decide) k) ?_
  refine sh_cp (fun w Z k => sh_iload_n dc_Hall_acquire_7 rfl rfl k) ?_
  refine sh_cp (fun w Z k => sh_iconst (v := 0) dc_Hall_acquire_8 (by decide) k) ?_
  refine sh_cp (fun w Z k => sh_iconst (v := 1) dc_Hall_acquire_9 (by decide) k) ?_
  refine sh_ccall (fun w hw => sh_stat (As := [.int m, .int 0, .int 1]) dc_Hall_acquire_10 lm_Hall_checkNumber ln_Hall_39 wd_191 wd_49 rfl rfl (Nat.le_of_ble_eq_true rfl)) (ct_Hall_checkNumber_2 (x := m) (lo := 0) (hi := 1) (sp_m0 hm) (sp_m1 hm)) ⟨(Nat.le_of_ble_eq_true rfl), (Nat.le_of_ble_eq_true rfl), (Nat.le_of_ble_eq_true rfl), (Nat.le_of_ble_eq_true rfl)⟩ ?_
  show sh_cW _ _ (_, _, []) K L _ _ _ _ _
  refine sh_cp (fun w Z k => sh_dload dc_Hall_acquire_13 rfl k) ?_
  refine sh_cp (fun w Z k => sh_iconst (v := (-1)) dc_Hall_acquire_15 (by decide) k) ?_
  refine sh_cp (fun w Z k => sh_sipush (v := 1000) dc_Hall_acquire_16 (by decide) k) ?_
  refine sh_ccall (fun w hw => sh_stat (As := [.double y, .int (-1), .int 1000]) dc_Hall_acquire_19 lm_Hall_checkAmount ln_Hall_66 wd_451 wd_49 rfl rfl (Nat.le_of_ble_eq_true rfl)) (ct_Hall_checkAmount_2 (x := y) (lo := (-1)) (hi := 1000) hl1 hl2) ⟨(Nat.le_of_ble_eq_true rfl), (Nat.le_of_ble_eq_true rfl), (Nat.le_of_ble_eq_true rfl), (Nat.le_of_ble_eq_true rfl)⟩ ?_
  show sh_cW _ _ (_, _, []) K L _ _ _ _ _
  refine sh_cp (fun w Z k => sh_aload_n dc_Hall_acquire_22 rfl rfl k) ?_
  refine sh_cp (fun w Z k => sh_iload_n dc_Hall_acquire_23 rfl rfl k) ?_
  refine sh_ccall (fun w hw => sh_virt (As := [.int (nI s)]) dc_Hall_acquire_24 lm_Hall_syncAt ln_Hall_73 wd_272 wd_2 rfl rfl (Nat.le_of_ble_eq_true rfl) (hw _ _ cw_o0) rfl) (ct_Hall_syncAt_2 (s := s) (by omega) (cw_nz hk_s (by decide))) ⟨(Nat.le_of_ble_eq_true rfl), (Nat.le_of_ble_eq_true rfl), (Nat.le_of_ble_eq_true rfl), (Nat.le_of_ble_eq_true rfl)⟩ ?_
  show sh_cW _ _ (_, _, [.ref (A (20 + s))]) K L _ _ _ _ _
  refine sh_cp (fun w Z k => sh_astore dc_Hall_acquire_27 (by decide) k) ?_
  refine sh_cp (fun w Z k => sh_aload dc_Hall_acquire_29 rfl k) ?_
  refine sh_ccall (fun w hw => sh_stat (As := [.ref (A (10 + t))]) dc_Hall_acquire_31 lm_Hall_checkRunning ln_Hall_77 wd_463 wd_49 rfl rfl (Nat.le_of_ble_eq_true rfl)) (ct_Hall_checkRunning_1 (t := t) (by omega) hp) ⟨(Nat.le_of_ble_eq_true rfl), (Nat.le_of_ble_eq_true rfl), (Nat.le_of_ble_eq_true rfl), (Nat.le_of_ble_eq_true rfl)⟩ ?_
  show sh_cW _ _ (_, _, []) K L _ _ _ _ _
  refine sh_cp (fun w Z k => sh_aload dc_Hall_acquire_34 rfl k) ?_
  refine sh_ccall (fun w hw => sh_stat (As := [.ref (A (20 + s))]) dc_Hall_acquire_36 lm_Hall_gateOf ln_Hall_81 wd_471 wd_49 rfl rfl (Nat.le_of_ble_eq_true rfl)) (ct_Hall_gateOf_Shared_1 (s := s) (by omega) hk_s) ⟨(Nat.le_of_ble_eq_true rfl), (Nat.le_of_ble_eq_true rfl), (Nat.le_of_ble_eq_true rfl), (Nat.le_of_ble_eq_true rfl)⟩ ?_
  show sh_cW _ _ (_, _, [.ref (A (20 + s))]) K L _ _ _ _ _
  refine sh_cp (fun w Z k => sh_astore dc_Hall_acquire_39 (by decide) k) ?_
  refine sh_cp (fun w Z k => sh_aload dc_Hall_acquire_41 rfl k) ?_
  refine sh_ccall (fun w hw => sh_virt (As := []) dc_Hall_acquire_43 lm_Worker_dropFlag ln_Hall_85 wd_492 wd_5 rfl rfl (Nat.le_of_ble_eq_true rfl) (hw _ _ (cw_ow (by omega))) rfl) (ct_Worker_dropFlag_1 (t := t) (by omega) v0_43) ⟨(Nat.le_of_ble_eq_true rfl), (Nat.le_of_ble_eq_true rfl), (Nat.le_of_ble_eq_true rfl), (Nat.le_of_ble_eq_true rfl)⟩ ?_
  show sh_cW _ _ (_, _, [.int (K 2 t)]) (sh_u2 K 2 t 0) L _ _ _ _ _
  refine sh_cp (fun w Z k => sh_if_eq (tgt := 56) dc_Hall_acquire_46 (by decide) (fun _ => k) (fun z => absurd c1_46 z)) ?_
  refine sh_cp (fun w Z k => sh_aload_n dc_Hall_acquire_56 rfl rfl k) ?_
  refine sh_cp (fun w Z k => sh_aload dc_Hall_acquire_57 rfl k) ?_
  refine sh_cp (fun w Z k => sh_aload dc_Hall_acquire_59 rfl k) ?_
  refine sh_cp (fun w Z k => sh_iload_n dc_Hall_acquire_61 rfl rfl k) ?_
  refine sh_ccall (fun w hw => sh_virt (As := [.ref (A (10 + t)), .ref (A (20 + s)), .int (nI s)]) dc_Hall_acquire_62 lm_Hall_keepOrder ln_Hall_92 wd_500 wd_7 rfl rfl (Nat.le_of_ble_eq_true rfl) (hw _ _ cw_o0) rfl) (cl_kon_Shared (t := t) (s := s) (by omega) (by omega) (cw_okr_up (by decide) ho) ((congrArg cw_cl (sh_u2_row (by decide) _)).trans hk_s)) ⟨(Nat.le_of_ble_eq_true rfl), (Nat.le_of_ble_eq_true rfl), (Nat.le_of_ble_eq_true rfl), (Nat.le_of_ble_eq_true rfl)⟩ ?_
  show sh_cW _ _ (_, _, []) (sh_u2 K 2 t 0) L _ _ _ _ _
  refine sh_cp (fun w Z k => sh_aload dc_Hall_acquire_65 rfl k) ?_
  refine sh_cp (fun w Z k => sh_aload dc_Hall_acquire_67 rfl k) ?_
  refine sh_cp (fun w Z k => sh_iload_n dc_Hall_acquire_69 rfl rfl k) ?_
  refine sh_ccall (fun w hw => sh_virtU (As := [.ref (A (10 + t)), .int m]) dc_Hall_acquire_70 lm_Shared_checkWish wd_528 wd_530 (Or.inr ⟨_, _, _, wd_529, wd_540⟩) ⟨by decide, by decide⟩ (by decide +kernel) wd_535 wd_534 rfl rfl (Nat.le_of_ble_eq_true rfl) (hw _ _ (cw_oh (by omega) ((congrArg cw_cl (sh_u2_row (by decide) _)).trans hk_s))) rfl) (cl_cw (t := t) (s := s) (m := m) (by omega) (by omega) (cw_okr_up (by decide) ho) ((congrArg cw_cl (sh_u2_row (by decide) _)).trans hk_s) c2_70) ⟨(Nat.le_of_ble_eq_true rfl), (Nat.le_of_ble_eq_true rfl), (Nat.le_of_ble_eq_true rfl), (Nat.le_of_ble_eq_true rfl)⟩ ?_
  show sh_cW _ _ (_, _, []) (sh_u2 K 2 t 0) L _ _ _ _ _
  refine sh_cp (fun w Z k => sh_aload dc_Hall_acquire_73 rfl k) ?_
  refine sh_cp (fun w Z k => sh_aload dc_Hall_acquire_75 rfl k) ?_
  refine sh_cp (fun w Z k => sh_iload_n dc_Hall_acquire_77 rfl rfl k) ?_
  refine sh_ccall (fun w hw => sh_virtU (As := [.ref (A (10 + t)), .int m]) dc_Hall_acquire_78 lm_Shared_mustQueue wd_541 wd_543 (Or.inl wd_542) ⟨by decide, by decide⟩ (by decide +kernel) wd_563 wd_562 rfl rfl (Nat.le_of_ble_eq_true rfl) (hw _ _ (cw_oh (by omega) ((congrArg cw_cl (sh_u2_row (by decide) _)).trans hk_s))) rfl) (cl_mq_Shared (s := s) (t := t) (m := m) (l := l) (by omega) (by omega) (cw_okr_up (by decide) ho) (cw_row_up (by decide) hr) hm ((congrArg cw_cl (sh_u2_row (by decide) _)).trans hk_s)) ⟨(Nat.le_of_ble_eq_true rfl), (Nat.le_of_ble_eq_true rfl), (Nat.le_of_ble_eq_true rfl), (Nat.le_of_ble_eq_true rfl)⟩ ?_
  show sh_cW _ _ (_, _, [.int (sp_b (sp_mq (sh_u2 K 2 t 0) t s m l))]) (sh_u2 K 2 t 0) L _ _ _ _ _
  refine sh_cp (fun w Z k => sh_if_ne (tgt := 111) dc_Hall_acquire_81 (by decide) (fun z => absurd c3_81 z) (fun _ => k)) ?_
  refine sh_cp (fun w Z k => sh_aload dc_Hall_acquire_84 rfl k) ?_
  refine sh_cp (fun w Z k => sh_aload dc_Hall_acquire_86 rfl k) ?_
  refine sh_cp (fun w Z k => sh_iload_n dc_Hall_acquire_88 rfl rfl k) ?_
  refine sh_ccall (fun w hw => sh_virtU (As := [.ref (A (10 + t)), .int m]) dc_Hall_acquire_89 lm_Shared_canTake wd_570 wd_572 (Or.inl wd_571) ⟨by decide, by decide⟩ (by decide +kernel) wd_583 wd_582 rfl rfl (Nat.le_of_ble_eq_true rfl) (hw _ _ (cw_oh (by omega) ((congrArg cw_cl (sh_u2_row (by decide) _)).trans hk_s))) rfl) (cl_can_Shared (s := s) (t := t) (m := m) (by omega) (by omega) (cw_okr_up (by decide) ho) hm ((congrArg cw_cl (sh_u2_row (by decide) _)).trans hk_s)) ⟨(Nat.le_of_ble_eq_true rfl), (Nat.le_of_ble_eq_true rfl), (Nat.le_of_ble_eq_true rfl), (Nat.le_of_ble_eq_true rfl)⟩ ?_
  show sh_cW _ _ (_, _, [.int (sp_b (sp_can (sh_u2 K 2 t 0) t s m))]) (sh_u2 K 2 t 0) L _ _ _ _ _
  refine sh_cp (fun w Z k => sh_if_eq (tgt := 111) dc_Hall_acquire_92 (by decide) (fun _ => k) (fun z => absurd c4_92 z)) ?_
  refine sh_cp (fun w Z k => sh_dload dc_Hall_acquire_111 rfl k) ?_
  refine sh_cp (fun w Z k => sh_dconst0 dc_Hall_acquire_113 k) ?_
  refine sh_cp (fun w Z k => sh_dcmp dc_Hall_acquire_114 k) ?_
  refine sh_cp (fun w Z k => sh_if_ne (tgt := 125) dc_Hall_acquire_115 (by decide) (fun _ => k) (fun z => absurd z c5_115)) ?_
  refine sh_cp (fun w Z k => sh_aload dc_Hall_acquire_125 rfl k) ?_
  refine sh_cp (fun w Z k => sh_iconst (v := 1) dc_Hall_acquire_127 (by decide) k) ?_
  refine sh_cput (K1 := (sh_u2 (sh_u2 K 2 t 0) 9 t 1)) (L1 := L) (10 + t) 9 dc_Hall_acquire_128 (cw_ow (by omega)) rfl (by decide) fl_Hall_113 rfl rfl rfl rfl pd_I rfl rfl (cq_Worker_9 (by omega)) (fun i hi => cw_upI (by decide) hi) ?_
  refine sh_cp (fun w Z k => sh_aload dc_Hall_acquire_131 rfl k) ?_
  refine sh_cp (fun w Z k => sh_iconst (v := 1) dc_Hall_acquire_133 (by decide) k) ?_
  refine sh_cput (K1 := (sh_u2 (sh_u2 (sh_u2 K 2 t 0) 9 t 1) 10 t 1)) (L1 := L) (10 + t) 10 dc_Hall_acquire_134 (cw_ow (by omega)) rfl (by decide) fl_Hall_116 rfl rfl rfl rfl pd_I rfl rfl (cq_Worker_10 (by omega)) (fun i hi => cw_upI (by decide) hi) ?_
  refine sh_cp (fun w Z k => sh_aload dc_Hall_acquire_137 rfl k) ?_
  refine sh_cp (fun w Z k => sh_aload dc_Hall_acquire_139 rfl k) ?_
  refine sh_cp (fun w Z k => sh_iload_n dc_Hall_acquire_141 rfl rfl k) ?_
  refine sh_cp (fun w Z k => sh_aload_n dc_Hall_acquire_142 rfl rfl k) ?_
  refine sh_cget 0 4 dc_Hall_acquire_143 cw_o0 rfl (by decide) fl_Hall_35 rfl rfl rfl rfl ?_
  refine sh_ccall (fun w hw => sh_virtU (As := [.ref (A (10 + t)), .int m, .double (L 11 0)]) dc_Hall_acquire_146 lm_Sync_enqueue wd_604 wd_605 (Or.inl wd_606) ⟨by decide, by decide⟩ (by decide +kernel) wd_611 wd_610 rfl rfl (Nat.le_of_ble_eq_true rfl) (hw _ _ (cw_oh (by omega) ((congrArg cw_cl (Eq.trans (sh_u2_row (by decide) _) (Eq.trans (sh_u2_row (by decide) _) (sh_u2_row (by decide) _)))).trans hk_s))) rfl) (cl_enq_Shared (s := s) (t := t) (m := m) (a := L 11 0) (l := l) (by omega) (by omega) (cw_row_up (by decide) (cw_row_up (by decide) (cw_row_up (by decide) hr))) hlen ((congrArg cw_cl (Eq.trans (sh_u2_row (by decide) _) (Eq.trans (sh_u2_row (by decide) _) (sh_u2_row (by decide) _)))).trans hk_s)) ⟨(Nat.le_of_ble_eq_true rfl), (Nat.le_of_ble_eq_true rfl), (Nat.le_of_ble_eq_true rfl), (Nat.le_of_ble_eq_true rfl)⟩ ?_
  show sh_cW _ _ (_, _, []) (sp_enq (sh_u2 (sh_u2 (sh_u2 K 2 t 0) 9 t 1) 10 t 1) s t m l) (sh_u2 L 8 t (L 11 0)) _ _ _ _ _
  refine sh_cp (fun w Z k => sh_aload dc_Hall_acquire_149 rfl k) ?_
  refine sh_cp (fun w Z k => sh_aload_n dc_Hall_acquire_151 rfl rfl k) ?_
  refine sh_cget 0 4 dc_Hall_acquire_152 cw_o0 rfl (by decide) fl_Hall_35 rfl rfl rfl rfl ?_
  refine sh_ctd (show (sh_u2 L 8 t (L 11 0)) 11 0 = L 11 0 from (sh_u2_row (by decide) _)) ?_
  refine sh_cp (fun w Z k => sh_dload dc_Hall_acquire_155 rfl k) ?_
  refine sh_ccall (fun w hw => sh_virt (As := [.double (L 11 0), .double y]) dc_Hall_acquire_157 lm_Worker_setEnd ln_Hall_123 wd_619 wd_17 rfl rfl (Nat.le_of_ble_eq_true rfl) (hw _ _ (cw_ow (by omega))) rfl) (ct_Worker_setEnd_1 (t := t) (a := L 11 0) (b := y) (by omega) c6_157) ⟨(Nat.le_of_ble_eq_true rfl), (Nat.le_of_ble_eq_true rfl), (Nat.le_of_ble_eq_true rfl), (Nat.le_of_ble_eq_true rfl)⟩ ?_
  show sh_cW _ _ (_, _, []) (sp_enq (sh_u2 (sh_u2 (sh_u2 K 2 t 0) 9 t 1) 10 t 1) s t m l) (sh_u2 L 8 t (L 11 0)) _ _ _ _ _
  refine sh_cp (fun w Z k => sh_aload dc_Hall_acquire_160 rfl k) ?_
  refine sh_cget (10 + t) 3 dc_Hall_acquire_162 (cw_ow (by omega)) rfl (by decide) fl_Hall_127 rfl rfl rfl rfl ?_
  exact sh_ce (fun w => sh_ireturn dc_Hall_acquire_165 rfl rfl (by decide) (by decide))
theorem ct_Hall_acquire_Shared_4 {A : Nat → Nat} {K : sh_II} {L : sh_DD} {t : Nat} {s : Nat} {m : Int32} {y : UInt64} {l : List Nat} (ht : t < 6) (hs : s < 8) (hm : m = 0 ∨ m = 1) (hl1 : ¬ (Op.cmpValue (FP.dcmp y (FP.i2d (-1))) .l) < 0) (hl2 : (Op.cmpValue (FP.dcmp y (FP.i2d 1000)) .g) ≤ 0) (hp : (K 5 t) = -1) (ho : cw_okr K) (hr : cw_row K s l) (hlen : l.length < 6) (hk_s : cw_cl (K 12 s) = 7) (v0_43 : narrow .boolean (.int (K 2 t)) = .int (K 2 t)) (c1_46 : (K 2 t) = 0) (c2_70 : ¬ sp_cw (sh_u2 K 2 t 0) t s m = true) (c3_81 : (sp_b (sp_mq (sh_u2 K 2 t 0) t s m l)) = 0) (c4_92 : (sp_b (sp_can (sh_u2 K 2 t 0) t s m)) = 0) (c5_115 : ¬ (Op.cmpValue (FP.dcmp y FP.dconst0) .l) = 0) (c6_157 : ¬ (Op.cmpValue (FP.dcmp y FP.dconst0) .l) ≤ 0) (v7_157 : vf_n64 (FP.dadd (L 11 0) y)) : sh_cM A md_Hall_acquire [.ref (A 0), .int (nI t), .int (nI s), .int m, .double y] K L (.inl (some (.int ((sh_u2 (sp_enq (sh_u2 (sh_u2 (sh_u2 K 2 t 0) 9 t 1) 10 t 1) s t m l) 26 t 1) 4 t)))) (sh_u2 (sp_enq (sh_u2 (sh_u2 (sh_u2 K 2 t 0) 9 t 1) 10 t 1) s t m l) 26 t 1) (sh_u2 (sh_u2 L 8 t (L 11 0)) 7 t (FP.dadd (L 11 0) y)) := by
  refine sh_cp (fun w Z k => sh_aload_n dc_Hall_acquire_0 rfl rfl k) ?_
  refine sh_cp (fun w Z k => sh_iload_n dc_Hall_acquire_1 rfl rfl k) ?_
  refine sh_ccall (fun w hw => sh_virt (As := [.int (nI t)]) dc_Hall_acquire_2 lm_Hall_workerAt ln_Hall_62 wd_448 wd_3 rfl rfl (Nat.le_of_ble_eq_true rfl) (hw _ _ cw_o0) rfl) (ct_Hall_workerAt_1 (t := t) (by omega)) ⟨(Nat.le_of_ble_eq_true rfl), (Nat.le_of_ble_eq_true rfl), (Nat.le_of_ble_eq_true rfl), (Nat.le_of_ble_eq_true rfl)⟩ ?_
  show sh_cW _ _ (_, _, [.ref (A (10 + t))]) K L _ _ _ _ _
  refine sh_cp (fun w Z k => sh_astore dc_Hall_acquire_5 (by decide) k) ?_
  refine sh_cp (fun w Z k => sh_iload_n dc_Hall_acquire_7 rfl rfl k) ?_
  refine sh_cp (fun w Z k => sh_iconst (v := 0) dc_Hall_acquire_8 (by decide) k) ?_
  refine sh_cp (fun w Z k => sh_iconst (v := 1) dc_Hall_acquire_9 (by decide) k) ?_
  refine sh_ccall (fun w hw => sh_stat (As := [.int m, .int 0, .int 1]) dc_Hall_acquire_10 lm_Hall_checkNumber ln_Hall_39 wd_191 wd_49 rfl rfl (Nat.le_of_ble_eq_true rfl)) (ct_Hall_checkNumber_2 (x := m) (lo := 0) (hi := 1) (sp_m0 hm) (sp_m1 hm)) ⟨(Nat.le_of_ble_eq_true rfl), (Nat.le_of_ble_eq_true rfl), (Nat.le_of_ble_eq_true rfl), (Nat.le_of_ble_eq_true rfl)⟩ ?_
  show sh_cW _ _ (_, _, []) K L _ _ _ _ _
  refine sh_cp (fun w Z k => sh_dload dc_Hall_acquire_13 rfl k) ?_
  refine sh_cp (fun w Z k => sh_iconst (v := (-1)) dc_Hall_acquire_15 (by decide) k) ?_
  refine sh_cp (fun w Z k => sh_sipush (v := 1000) dc_Hall_acquire_16 (by decide) k) ?_
  refine sh_ccall (fun w hw => sh_stat (As := [.double y, .int (-1), .int 1000]) dc_Hall_acquire_19 lm_Hall_checkAmount ln_Hall_66 wd_451 wd_49 rfl rfl (Nat.le_of_ble_eq_true rfl)) (ct_Hall_checkAmount_2 (x := y) (lo := (-1)) (hi := 1000) hl1 hl2) ⟨(Nat.le_of_ble_eq_true rfl), (Nat.le_of_ble_eq_true rfl), (Nat.le_of_ble_eq_true rfl), (Nat.le_of_ble_eq_true rfl)⟩ ?_
  show sh_cW _ _ (_, _, []) K L _ _ _ _ _
  refine sh_cp (fun w Z k => sh_aload_n dc_Hall_acquire_22 rfl rfl k) ?_
  refine sh_cp (fun w Z k => sh_iload_n dc_Hall_acquire_23 rfl rfl k) ?_
  refine sh_ccall (fun w hw => sh_virt (As := [.int (nI s)]) dc_Hall_acquire_24 lm_Hall_syncAt ln_Hall_73 wd_272 wd_2 rfl rfl (Nat.le_of_ble_eq_true rfl) (hw _ _ cw_o0) rfl) (ct_Hall_syncAt_2 (s := s) (by omega) (cw_nz hk_s (by decide))) ⟨(Nat.le_of_ble_eq_true rfl), (Nat.le_of_ble_eq_true rfl), (Nat.le_of_ble_eq_true rfl), (Nat.le_of_ble_eq_true rfl)⟩ ?_
  show sh_cW _ _ (_, _, [.ref (A (20 + s))]) K L _ _ _ _ _
  refine sh_cp (fun w Z k => sh_astore dc_Hall_acquire_27 (by decide) k) ?_
  refine sh_cp (fun w Z k => sh_aload dc_Hall_acquire_29 rfl k) ?_
  refine sh_ccall (fun w hw => sh_stat (As := [.ref (A (10 + t))]) dc_Hall_acquire_31 lm_Hall_checkRunning ln_Hall_77 wd_463 wd_49 rfl rfl (Nat.le_of_ble_eq_true rfl)) (ct_Hall_checkRunning_1 (t := t) (by omega) hp) ⟨(Nat.le_of_ble_eq_true rfl), (Nat.le_of_ble_eq_true rfl), (Nat.le_of_ble_eq_true rfl), (Nat.le_of_ble_eq_true rfl)⟩ ?_
  show sh_cW _ _ (_, _, []) K L _ _ _ _ _
  refine sh_cp (fun w Z k => sh_aload dc_Hall_acquire_34 rfl k) ?_
  refine sh_ccall (fun w hw => sh_stat (As := [.ref (A (20 + s))]) dc_Hall_acquire_36 lm_Hall_gateOf ln_Hall_81 wd_471 wd_49 rfl rfl (Nat.le_of_ble_eq_true rfl)) (ct_Hall_gateOf_Shared_1 (s := s) (by omega) hk_s) ⟨(Nat.le_of_ble_eq_true rfl), (Nat.le_of_ble_eq_true rfl), (Nat.le_of_ble_eq_true rfl), (Nat.le_of_ble_eq_true rfl)⟩ ?_
  show sh_cW _ _ (_, _, [.ref (A (20 + s))]) K L _ _ _ _ _
  refine sh_cp (fun w Z k => sh_astore dc_Hall_acquire_39 (by decide) k) ?_
  refine sh_cp (fun w Z k => sh_aload dc_Hall_acquire_41 rfl k) ?_
  refine sh_ccall (fun w hw => sh_virt (As := []) dc_Hall_acquire_43 lm_Worker_dropFlag ln_Hall_85 wd_492 wd_5 rfl rfl (Nat.le_of_ble_eq_true rfl) (hw _ _ (cw_ow (by omega))) rfl) (ct_Worker_dropFlag_1 (t := t) (by omega) v0_43) ⟨(Nat.le_of_ble_eq_true rfl), (Nat.le_of_ble_eq_true rfl), (Nat.le_of_ble_eq_true rfl), (Nat.le_of_ble_eq_true rfl)⟩ ?_
  show sh_cW _ _ (_, _, [.int (K 2 t)]) (sh_u2 K 2 t 0) L _ _ _ _ _
  refine sh_cp (fun w Z k => sh_if_eq (tgt := 56) dc_Hall_acquire_46 (by decide) (fun _ => k) (fun z => absurd c1_46 z)) ?_
  refine sh_cp (fun w Z k => sh_aload_n dc_Hall_acquire_56 rfl rfl k) ?_
  refine sh_cp (fun w Z k => sh_aload dc_Hall_acquire_57 rfl k) ?_
  refine sh_cp (fun w Z k => sh_aload dc_Hall_acquire_59 rfl k) ?_
  refine sh_cp (fun w Z k => sh_iload_n dc_Hall_acquire_61 rfl rfl k) ?_
  refine sh_ccall (fun w hw => sh_virt (As := [.ref (A (10 + t)), .ref (A (20 + s)), .int (nI s)]) dc_Hall_acquire_62 lm_Hall_keepOrder ln_Hall_92 wd_500 wd_7 rfl rfl (Nat.le_of_ble_eq_true rfl) (hw _ _ cw_o0) rfl) (cl_kon_Shared (t := t) (s := s) (by omega) (by omega) (cw_okr_up (by decide) ho) ((congrArg cw_cl (sh_u2_row (by decide) _)).trans hk_s)) ⟨(Nat.le_of_ble_eq_true rfl), (Nat.le_of_ble_eq_true rfl), (Nat.le_of_ble_eq_true rfl), (Nat.le_of_ble_eq_true rfl)⟩ ?_
  show sh_cW _ _ (_, _, []) (sh_u2 K 2 t 0) L _ _ _ _ _
  refine sh_cp (fun w Z k => sh_aload dc_Hall_acquire_65 rfl k) ?_
  refine sh_cp (fun w Z k => sh_aload dc_Hall_acquire_67 rfl k) ?_
  refine sh_cp (fun w Z k => sh_iload_n dc_Hall_acquire_69 rfl rfl k) ?_
  refine sh_ccall (fun w hw => sh_virtU (As := [.ref (A (10 + t)), .int m]) dc_Hall_acquire_70 lm_Shared_checkWish wd_528 wd_530 (Or.inr ⟨_, _, _, wd_529, wd_540⟩) ⟨by decide, by decide⟩ (by decide +kernel) wd_535 wd_534 rfl rfl (Nat.le_of_ble_eq_true rfl) (hw _ _ (cw_oh (by omega) ((congrArg cw_cl (sh_u2_row (by decide) _)).trans hk_s))) rfl) (cl_cw (t := t) (s := s) (m := m) (by omega) (by omega) (cw_okr_up (by decide) ho) ((congrArg cw_cl (sh_u2_row (by decide) _)).trans hk_s) c2_70) ⟨(Nat.le_of_ble_eq_true rfl), (Nat.le_of_ble_eq_true rfl), (Nat.le_of_ble_eq_true rfl), (Nat.le_of_ble_eq_true rfl)⟩ ?_
  show sh_cW _ _ (_, _, []) (sh_u2 K 2 t 0) L _ _ _ _ _
  refine sh_cp (fun w Z k => sh_aload dc_Hall_acquire_73 rfl k) ?_
  refine sh_cp (fun w Z k => sh_aload dc_Hall_acquire_75 rfl k) ?_
  refine sh_cp (fun w Z k => sh_iload_n dc_Hall_acquire_77 rfl rfl k) ?_
  refine sh_ccall (fun w hw => sh_virtU (As := [.ref (A (10 + t)), .int m]) dc_Hall_acquire_78 lm_Shared_mustQueue wd_541 wd_543 (Or.inl wd_542) ⟨by decide, by decide⟩ (by decide +kernel) wd_563 wd_562 rfl rfl (Nat.le_of_ble_eq_true rfl) (hw _ _ (cw_oh (by omega) ((congrArg cw_cl (sh_u2_row (by decide) _)).trans hk_s))) rfl) (cl_mq_Shared (s := s) (t := t) (m := m) (l := l) (by omega) (by omega) (cw_okr_up (by decide) ho) (cw_row_up (by decide) hr) hm ((congrArg cw_cl (sh_u2_row (by decide) _)).trans hk_s)) ⟨(Nat.le_of_ble_eq_true rfl), (Nat.le_of_ble_eq_true rfl), (Nat.le_of_ble_eq_true rfl), (Nat.le_of_ble_eq_true rfl)⟩ ?_
  show sh_cW _ _ (_, _, [.int (sp_b (sp_mq (sh_u2 K 2 t 0) t s m l))]) (sh_u2 K 2 t 0) L _ _ _ _ _
  refine sh_cp (fun w Z k => sh_if_ne (tgt := 111) dc_Hall_acquire_81 (by decide) (fun z => absurd c3_81 z) (fun _ => k)) ?_
  refine sh_cp (fun w Z k => sh_aload dc_Hall_acquire_84 rfl k) ?_
  refine sh_cp (fun w Z k => sh_aload dc_Hall_acquire_86 rfl k) ?_
  refine sh_cp (fun w Z k => sh_iload_n dc_Hall_acquire_88 rfl rfl k) ?_
  refine sh_ccall (fun w hw => sh_virtU (As := [.ref (A (10 + t)), .int m]) dc_Hall_acquire_89 lm_Shared_canTake wd_570 wd_572 (Or.inl wd_571) ⟨by decide, by decide⟩ (by decide +kernel) wd_583 wd_582 rfl rfl (Nat.le_of_ble_eq_true rfl) (hw _ _ (cw_oh (by omega) ((congrArg cw_cl (sh_u2_row (by decide) _)).trans hk_s))) rfl) (cl_can_Shared (s := s) (t := t) (m := m) (by omega) (by omega) (cw_okr_up (by decide) ho) hm ((congrArg cw_cl (sh_u2_row (by decide) _)).trans hk_s)) ⟨(Nat.le_of_ble_eq_true rfl), (Nat.le_of_ble_eq_true rfl), (Nat.le_of_ble_eq_true rfl), (Nat.le_of_ble_eq_true rfl)⟩ ?_
  show sh_cW _ _ (_, _, [.int (sp_b (sp_can (sh_u2 K 2 t 0) t s m))]) (sh_u2 K 2 t 0) L _ _ _ _ _
  refine sh_cp (fun w Z k => sh_if_eq (tgt := 111) dc_Hall_acquire_92 (by decide) (fun _ => k) (fun z => absurd c4_92 z)) ?_
  refine sh_cp (fun w Z k => sh_dload dc_Hall_acquire_111 rfl k) ?_
  refine sh_cp (fun w Z k => sh_dconst0 dc_Hall_acquire_113 k) ?_
  refine sh_cp (fun w Z k => sh_dcmp dc_Hall_acquire_114 k) ?_
  refine sh_cp (fun w Z k => sh_if_ne (tgt := 125) dc_Hall_acquire_115 (by decide) (fun _ => k) (fun z => absurd z c5_115)) ?_
  refine sh_cp (fun w Z k => sh_aload dc_Hall_acquire_125 rfl k) ?_
  refine sh_cp (fun w Z k => sh_iconst (v := 1) dc_Hall_acquire_127 (by decide) k) ?_
  refine sh_cput (K1 := (sh_u2 (sh_u2 K 2 t 0) 9 t 1)) (L1 := L) (10 + t) 9 dc_Hall_acquire_128 (cw_ow (by omega)) rfl (by decide) fl_Hall_113 rfl rfl rfl rfl pd_I rfl rfl (cq_Worker_9 (by omega)) (fun i hi => cw_upI (by decide) hi) ?_
  refine sh_cp (fun w Z k => sh_aload dc_Hall_acquire_131 rfl k) ?_
  refine sh_cp (fun w Z k => sh_iconst (v := 1) dc_Hall_acquire_133 (by decide) k) ?_
  refine sh_cput (K1 := (sh_u2 (sh_u2 (sh_u2 K 2 t 0) 9 t 1) 10 t 1)) (L1 := L) (10 + t) 10 dc_Hall_acquire_134 (cw_ow (by omega)) rfl (by decide) fl_Hall_116 rfl rfl rfl rfl pd_I rfl rfl (cq_Worker_10 (by omega)) (fun i hi => cw_upI (by decide) hi) ?_
  refine sh_cp (fun w Z k => sh_aload dc_Hall_acquire_137 rfl k) ?_
  refine sh_cp (fun w Z k => sh_aload dc_Hall_acquire_139 rfl k) ?_
  refine sh_cp (fun w Z k => sh_iload_n dc_Hall_acquire_141 rfl rfl k) ?_
  refine sh_cp (fun w Z k => sh_aload_n dc_Hall_acquire_142 rfl rfl k) ?_
  refine sh_cget 0 4 dc_Hall_acquire_143 cw_o0 rfl (by decide) fl_Hall_35 rfl rfl rfl rfl ?_
  refine sh_ccall (fun w hw => sh_virtU (As := [.ref (A (10 + t)), .int m, .double (L 11 0)]) dc_Hall_acquire_146 lm_Sync_enqueue wd_604 wd_605 (Or.inl wd_606) ⟨by decide, by decide⟩ (by decide +kernel) wd_611 wd_610 rfl rfl (Nat.le_of_ble_eq_true rfl) (hw _ _ (cw_oh (by omega) ((congrArg cw_cl (Eq.trans (sh_u2_row (by decide) _) (Eq.trans (sh_u2_row (by decide) _) (sh_u2_row (by decide) _)))).trans hk_s))) rfl) (cl_enq_Shared (s := s) (t := t) (m := m) (a := L 11 0) (l := l) (by omega) (by omega) (cw_row_up (by decide) (cw_row_up (by decide) (cw_row_up (by decide) hr))) hlen ((congrArg cw_cl (Eq.trans (sh_u2_row (by decide) _) (Eq.trans (sh_u2_row (by decide) _) (sh_u2_row (by decide) _)))).trans hk_s)) ⟨(Nat.le_of_ble_eq_true rfl), (Nat.le_of_ble_eq_true rfl), (Nat.le_of_ble_eq_true rfl), (Nat.le_of_ble_eq_true rfl)⟩ ?_
  show sh_cW _ _ (_, _, []) (sp_enq (sh_u2 (sh_u2 (sh_u2 K 2 t 0) 9 t 1) 10 t 1) s t m l) (sh_u2 L 8 t (L 11 0)) _ _ _ _ _
  refine sh_cp (fun w Z k => sh_aload dc_Hall_acquire_149 rfl k) ?_
  refine sh_cp (fun w Z k => sh_aload_n dc_Hall_acquire_151 rfl rfl k) ?_
  refine sh_cget 0 4 dc_Hall_acquire_152 cw_o0 rfl (by decide) fl_Hall_35 rfl rfl rfl rfl ?_
  refine sh_ctd (show (sh_u2 L 8 t (L 11 0)) 11 0 = L 11 0 from (sh_u2_row (by decide) _)) ?_
  refine sh_cp (fun w Z k => sh_dload dc_Hall_acquire_155 rfl k) ?_
  refine sh_ccall (fun w hw => sh_virt (As := [.double (L 11 0), .double y]) dc_Hall_acquire_157 lm_Worker_setEnd ln_Hall_123 wd_619 wd_17 rfl rfl (Nat.le_of_ble_eq_true rfl) (hw _ _ (cw_ow (by omega))) rfl) (ct_Worker_setEnd_2 (t := t) (a := L 11 0) (b := y) (by omega) c6_157 v7_157) ⟨(Nat.le_of_ble_eq_true rfl), (Nat.le_of_ble_eq_true rfl), (Nat.le_of_ble_eq_true rfl), (Nat.le_of_ble_eq_true rfl)⟩ ?_
  show sh_cW _ _ (_, _, []) (sh_u2 (sp_enq (sh_u2 (sh_u2 (sh_u2 K 2 t 0) 9 t 1) 10 t 1) s t m l) 26 t 1) (sh_u2 (sh_u2 L 8 t (L 11 0)) 7 t (FP.dadd (L 11 0) y)) _ _ _ _ _
  refine sh_cp (fun w Z k => sh_aload dc_Hall_acquire_160 rfl k) ?_
  refine sh_cget (10 + t) 3 dc_Hall_acquire_162 (cw_ow (by omega)) rfl (by decide) fl_Hall_127 rfl rfl rfl rfl ?_
  exact sh_ce (fun w => sh_ireturn dc_Hall_acquire_165 rfl rfl (by decide) (by decide))
theorem ct_Hall_acquire_Shared_5 {A : Nat → Nat} {K : sh_II} {L : sh_DD} {t : Nat} {s : Nat} {m : Int32} {y : UInt64} {l : List Nat} (ht : t < 6) (hs : s < 8) (hm : m = 0 ∨ m = 1) (hl1 : ¬ (Op.cmpValue (FP.dcmp y (FP.i2d (-1))) .l) < 0) (hl2 : (Op.cmpValue (FP.dcmp y (FP.i2d 1000)) .g) ≤ 0) (hp : (K 5 t) = -1) (ho : cw_okr K) (hr : cw_row K s l) (hlen : l.length < 6) (hk_s : cw_cl (K 12 s) = 7) (v0_43 : narrow .boolean (.int (K 2 t)) = .int (K 2 t)) (c1_46 : (K 2 t) = 0) (c2_70 : ¬ sp_cw (sh_u2 K 2 t 0) t s m = true) (c3_81 : (sp_b (sp_mq (sh_u2 K 2 t 0) t s m l)) = 0) (c4_92 : ¬ (sp_b (sp_can (sh_u2 K 2 t 0) t s m)) = 0) : sh_cM A md_Hall_acquire [.ref (A 0), .int (nI t), .int (nI s), .int m, .double y] K L (.inl (some (.int 1))) (sh_u2 (sh_u2 (sp_tk (sh_u2 K 2 t 0) t s m 1) 4 t 1) 27 t 0) L := by
  refine sh_cp (fun w Z k => sh_aload_n dc_Hall_acquire_0 rfl rfl k) ?_
  refine sh_cp (fun w Z k => sh_iload_n dc_Hall_acquire_1 rfl rfl k) ?_
  refine sh_ccall (fun w hw => sh_virt (As := [.int (nI t)]) dc_Hall_acquire_2 lm_Hall_workerAt ln_Hall_62 wd_448 wd_3 rfl rfl (Nat.le_of_ble_eq_true rfl) (hw _ _ cw_o0) rfl) (ct_Hall_workerAt_1 (t := t) (by omega)) ⟨(Nat.le_of_ble_eq_true rfl), (Nat.le_of_ble_eq_true rfl), (Nat.le_of_ble_eq_true rfl), (Nat.le_of_ble_eq_true rfl)⟩ ?_
  show sh_cW _ _ (_, _, [.ref (A (10 + t))]) K L _ _ _ _ _
  refine sh_cp (fun w Z k => sh_astore dc_Hall_acquire_5 (by decide) k) ?_
  refine sh_cp (fun w Z k => sh_iload_n dc_Hall_acquire_7 rfl rfl k) ?_
  refine sh_cp (fun w Z k => sh_iconst (v := 0) dc_Hall_acquire_8 (by decide) k) ?_
  refine sh_cp (fun w Z k => sh_iconst (v := 1) dc_Hall_acquire_9 (by decide) k) ?_
  refine sh_ccall (fun w hw => sh_stat (As := [.int m, .int 0, .int 1]) dc_Hall_acquire_10 lm_Hall_checkNumber ln_Hall_39 wd_191 wd_49 rfl rfl (Nat.le_of_ble_eq_true rfl)) (ct_Hall_checkNumber_2 (x := m) (lo := 0) (hi := 1) (sp_m0 hm) (sp_m1 hm)) ⟨(Nat.le_of_ble_eq_true rfl), (Nat.le_of_ble_eq_true rfl), (Nat.le_of_ble_eq_true rfl), (Nat.le_of_ble_eq_true rfl)⟩ ?_
  show sh_cW _ _ (_, _, []) K L _ _ _ _ _
  refine sh_cp (fun w Z k => sh_dload dc_Hall_acquire_13 rfl k) ?_
  refine sh_cp (fun w Z k => sh_iconst (v := (-1)) dc_Hall_acquire_15 (by decide) k) ?_
  refine sh_cp (fun w Z k => sh_sipush (v := 1000) dc_Hall_acquire_16 (by decide) k) ?_
  refine sh_ccall (fun w hw => sh_stat (As := [.double y, .int (-1), .int 1000]) dc_Hall_acquire_19 lm_Hall_checkAmount ln_Hall_66 wd_451 wd_49 rfl rfl (Nat.le_of_ble_eq_true rfl)) (ct_Hall_checkAmount_2 (x := y) (lo := (-1)) (hi := 1000) hl1 hl2) ⟨(Nat.le_of_ble_eq_true rfl), (Nat.le_of_ble_eq_true rfl), (Nat.le_of_ble_eq_true rfl), (Nat.le_of_ble_eq_true rfl)⟩ ?_
  show sh_cW _ _ (_, _, []) K L _ _ _ _ _
  refine sh_cp (fun w Z k => sh_aload_n dc_Hall_acquire_22 rfl rfl k) ?_
  refine sh_cp (fun w Z k => sh_iload_n dc_Hall_acquire_23 rfl rfl k) ?_
  refine sh_ccall (fun w hw => sh_virt (As := [.int (nI s)]) dc_Hall_acquire_24 lm_Hall_syncAt ln_Hall_73 wd_272 wd_2 rfl rfl (Nat.le_of_ble_eq_true rfl) (hw _ _ cw_o0) rfl) (ct_Hall_syncAt_2 (s := s) (by omega) (cw_nz hk_s (by decide))) ⟨(Nat.le_of_ble_eq_true rfl), (Nat.le_of_ble_eq_true rfl), (Nat.le_of_ble_eq_true rfl), (Nat.le_of_ble_eq_true rfl)⟩ ?_
  show sh_cW _ _ (_, _, [.ref (A (20 + s))]) K L _ _ _ _ _
  refine sh_cp (fun w Z k => sh_astore dc_Hall_acquire_27 (by decide) k) ?_
  refine sh_cp (fun w Z k => sh_aload dc_Hall_acquire_29 rfl k) ?_
  refine sh_ccall (fun w hw => sh_stat (As := [.ref (A (10 + t))]) dc_Hall_acquire_31 lm_Hall_checkRunning ln_Hall_77 wd_463 wd_49 rfl rfl (Nat.le_of_ble_eq_true rfl)) (ct_Hall_checkRunning_1 (t := t) (by omega) hp) ⟨(Nat.le_of_ble_eq_true rfl), (Nat.le_of_ble_eq_true rfl), (Nat.le_of_ble_eq_true rfl), (Nat.le_of_ble_eq_true rfl)⟩ ?_
  show sh_cW _ _ (_, _, []) K L _ _ _ _ _
  refine sh_cp (fun w Z k => sh_aload dc_Hall_acquire_34 rfl k) ?_
  refine sh_ccall (fun w hw => sh_stat (As := [.ref (A (20 + s))]) dc_Hall_acquire_36 lm_Hall_gateOf ln_Hall_81 wd_471 wd_49 rfl rfl (Nat.le_of_ble_eq_true rfl)) (ct_Hall_gateOf_Shared_1 (s := s) (by omega) hk_s) ⟨(Nat.le_of_ble_eq_true rfl), (Nat.le_of_ble_eq_true rfl), (Nat.le_of_ble_eq_true rfl), (Nat.le_of_ble_eq_true rfl)⟩ ?_
  show sh_cW _ _ (_, _, [.ref (A (20 + s))]) K L _ _ _ _ _
  refine sh_cp (fun w Z k => sh_astore dc_Hall_acquire_39 (by decide) k) ?_
  refine sh_cp (fun w Z k => sh_aload dc_Hall_acquire_41 rfl k) ?_
  refine sh_ccall (fun w hw => sh_virt (As := []) dc_Hall_acquire_43 lm_Worker_dropFlag ln_Hall_85 wd_492 wd_5 rfl rfl (Nat.le_of_ble_eq_true rfl) (hw _ _ (cw_ow (by omega))) rfl) (ct_Worker_dropFlag_1 (t := t) (by omega) v0_43) ⟨(Nat.le_of_ble_eq_true rfl), (Nat.le_of_ble_eq_true rfl), (Nat.le_of_ble_eq_true rfl), (Nat.le_of_ble_eq_true rfl)⟩ ?_
  show sh_cW _ _ (_, _, [.int (K 2 t)]) (sh_u2 K 2 t 0) L _ _ _ _ _
  refine sh_cp (fun w Z k => sh_if_eq (tgt := 56) dc_Hall_acquire_46 (by decide) (fun _ => k) (fun z => absurd c1_46 z)) ?_
  refine sh_cp (fun w Z k => sh_aload_n dc_Hall_acquire_56 rfl rfl k) ?_
  refine sh_cp (fun w Z k => sh_aload dc_Hall_acquire_57 rfl k) ?_
  refine sh_cp (fun w Z k => sh_aload dc_Hall_acquire_59 rfl k) ?_
  refine sh_cp (fun w Z k => sh_iload_n dc_Hall_acquire_61 rfl rfl k) ?_
  refine sh_ccall (fun w hw => sh_virt (As := [.ref (A (10 + t)), .ref (A (20 + s)), .int (nI s)]) dc_Hall_acquire_62 lm_Hall_keepOrder ln_Hall_92 wd_500 wd_7 rfl rfl (Nat.le_of_ble_eq_true rfl) (hw _ _ cw_o0) rfl) (cl_kon_Shared (t := t) (s := s) (by omega) (by omega) (cw_okr_up (by decide) ho) ((congrArg cw_cl (sh_u2_row (by decide) _)).trans hk_s)) ⟨(Nat.le_of_ble_eq_true rfl), (Nat.le_of_ble_eq_true rfl), (Nat.le_of_ble_eq_true rfl), (Nat.le_of_ble_eq_true rfl)⟩ ?_
  show sh_cW _ _ (_, _, []) (sh_u2 K 2 t 0) L _ _ _ _ _
  refine sh_cp (fun w Z k => sh_aload dc_Hall_acquire_65 rfl k) ?_
  refine sh_cp (fun w Z k => sh_aload dc_Hall_acquire_67 rfl k) ?_
  refine sh_cp (fun w Z k => sh_iload_n dc_Hall_acquire_69 rfl rfl k) ?_
  refine sh_ccall (fun w hw => sh_virtU (As := [.ref (A (10 + t)), .int m]) dc_Hall_acquire_70 lm_Shared_checkWish wd_528 wd_530 (Or.inr ⟨_, _, _, wd_529, wd_540⟩) ⟨by decide, by decide⟩ (by decide +kernel) wd_535 wd_534 rfl rfl (Nat.le_of_ble_eq_true rfl) (hw _ _ (cw_oh (by omega) ((congrArg cw_cl (sh_u2_row (by decide) _)).trans hk_s))) rfl) (cl_cw (t := t) (s := s) (m := m) (by omega) (by omega) (cw_okr_up (by decide) ho) ((congrArg cw_cl (sh_u2_row (by decide) _)).trans hk_s) c2_70) ⟨(Nat.le_of_ble_eq_true rfl), (Nat.le_of_ble_eq_true rfl), (Nat.le_of_ble_eq_true rfl), (Nat.le_of_ble_eq_true rfl)⟩ ?_
  show sh_cW _ _ (_, _, []) (sh_u2 K 2 t 0) L _ _ _ _ _
  refine sh_cp (fun w Z k => sh_aload dc_Hall_acquire_73 rfl k) ?_
  refine sh_cp (fun w Z k => sh_aload dc_Hall_acquire_75 rfl k) ?_
  refine sh_cp (fun w Z k => sh_iload_n dc_Hall_acquire_77 rfl rfl k) ?_
  refine sh_ccall (fun w hw => sh_virtU (As := [.ref (A (10 + t)), .int m]) dc_Hall_acquire_78 lm_Shared_mustQueue wd_541 wd_543 (Or.inl wd_542) ⟨by decide, by decide⟩ (by decide +kernel) wd_563 wd_562 rfl rfl (Nat.le_of_ble_eq_true rfl) (hw _ _ (cw_oh (by omega) ((congrArg cw_cl (sh_u2_row (by decide) _)).trans hk_s))) rfl) (cl_mq_Shared (s := s) (t := t) (m := m) (l := l) (by omega) (by omega) (cw_okr_up (by decide) ho) (cw_row_up (by decide) hr) hm ((congrArg cw_cl (sh_u2_row (by decide) _)).trans hk_s)) ⟨(Nat.le_of_ble_eq_true rfl), (Nat.le_of_ble_eq_true rfl), (Nat.le_of_ble_eq_true rfl), (Nat.le_of_ble_eq_true rfl)⟩ ?_
  show sh_cW _ _ (_, _, [.int (sp_b (sp_mq (sh_u2 K 2 t 0) t s m l))]) (sh_u2 K 2 t 0) L _ _ _ _ _
  refine sh_cp (fun w Z k => sh_if_ne (tgt := 111) dc_Hall_acquire_81 (by decide) (fun z => absurd c3_81 z) (fun _ => k)) ?_
  refine sh_cp (fun w Z k => sh_aload dc_Hall_acquire_84 rfl k) ?_
  refine sh_cp (fun w Z k => sh_aload dc_Hall_acquire_86 rfl k) ?_
  refine sh_cp (fun w Z k => sh_iload_n dc_Hall_acquire_88 rfl rfl k) ?_
  refine sh_ccall (fun w hw => sh_virtU (As := [.ref (A (10 + t)), .int m]) dc_Hall_acquire_89 lm_Shared_canTake wd_570 wd_572 (Or.inl wd_571) ⟨by decide, by decide⟩ (by decide +kernel) wd_583 wd_582 rfl rfl (Nat.le_of_ble_eq_true rfl) (hw _ _ (cw_oh (by omega) ((congrArg cw_cl (sh_u2_row (by decide) _)).trans hk_s))) rfl) (cl_can_Shared (s := s) (t := t) (m := m) (by omega) (by omega) (cw_okr_up (by decide) ho) hm ((congrArg cw_cl (sh_u2_row (by decide) _)).trans hk_s)) ⟨(Nat.le_of_ble_eq_true rfl), (Nat.le_of_ble_eq_true rfl), (Nat.le_of_ble_eq_true rfl), (Nat.le_of_ble_eq_true rfl)⟩ ?_
  show sh_cW _ _ (_, _, [.int (sp_b (sp_can (sh_u2 K 2 t 0) t s m))]) (sh_u2 K 2 t 0) L _ _ _ _ _
  refine sh_cp (fun w Z k => sh_if_eq (tgt := 111) dc_Hall_acquire_92 (by decide) (fun z => absurd z c4_92) (fun _ => k)) ?_
  refine sh_cp (fun w Z k => sh_aload dc_Hall_acquire_95 rfl k) ?_
  refine sh_cp (fun w Z k => sh_aload dc_Hall_acquire_97 rfl k) ?_
  refine sh_cp (fun w Z k => sh_iload_n dc_Hall_acquire_99 rfl rfl k) ?_
  refine sh_cp (fun w Z k => sh_iconst (v := 1) dc_Hall_acquire_100 (by decide) k) ?_
  refine sh_ccall (fun w hw => sh_virtU (As := [.ref (A (10 + t)), .int m, .int 1]) dc_Hall_acquire_101 lm_Shared_take wd_589 wd_591 (Or.inl wd_590) ⟨by decide, by decide⟩ (by decide +kernel) wd_602 wd_601 rfl rfl (Nat.le_of_ble_eq_true rfl) (hw _ _ (cw_oh (by omega) ((congrArg cw_cl (sh_u2_row (by decide) _)).trans hk_s))) rfl) (cl_take_Shared (s := s) (t := t) (m := m) (e := 1) (by omega) (by omega) ((congrArg cw_cl (sh_u2_row (by decide) _)).trans hk_s)) ⟨(Nat.le_of_ble_eq_true rfl), (Nat.le_of_ble_eq_true rfl), (Nat.le_of_ble_eq_true rfl), (Nat.le_of_ble_eq_true rfl)⟩ ?_
  show sh_cW _ _ (_, _, []) (sp_tk (sh_u2 K 2 t 0) t s m 1) L _ _ _ _ _
  refine sh_cp (fun w Z k => sh_aload dc_Hall_acquire_104 rfl k) ?_
  refine sh_cp (fun w Z k => sh_iconst (v := 1) dc_Hall_acquire_106 (by decide) k) ?_
  refine sh_ccall (fun w hw => sh_virt (As := [.int 1]) dc_Hall_acquire_107 lm_Worker_finish ln_Hall_89 wd_496 wd_6 rfl rfl (Nat.le_of_ble_eq_true rfl) (hw _ _ (cw_ow (by omega))) rfl) (ct_Worker_finish_1 (t := t) (x := 1) (by omega)) ⟨(Nat.le_of_ble_eq_true rfl), (Nat.le_of_ble_eq_true rfl), (Nat.le_of_ble_eq_true rfl), (Nat.le_of_ble_eq_true rfl)⟩ ?_
  show sh_cW _ _ (_, _, [.int 1]) (sh_u2 (sh_u2 (sp_tk (sh_u2 K 2 t 0) t s m 1) 4 t 1) 27 t 0) L _ _ _ _ _
  exact sh_ce (fun w => sh_ireturn dc_Hall_acquire_110 rfl rfl (by decide) (by decide))
theorem ct_Hall_acquire_Shared_6 {A : Nat → Nat} {K : sh_II} {L : sh_DD} {t : Nat} {s : Nat} {m : Int32} {y : UInt64} {l : List Nat} (ht : t < 6) (hs : s < 8) (hm : m = 0 ∨ m = 1) (hl1 : ¬ (Op.cmpValue (FP.dcmp y (FP.i2d (-1))) .l) < 0) (hl2 : (Op.cmpValue (FP.dcmp y (FP.i2d 1000)) .g) ≤ 0) (hp : (K 5 t) = -1) (ho : cw_okr K) (hr : cw_row K s l) (hlen : l.length < 6) (hk_s : cw_cl (K 12 s) = 7) (v0_43 : narrow .boolean (.int (K 2 t)) = .int (K 2 t)) (c1_46 : (K 2 t) = 0) (c2_70 : ¬ sp_cw (sh_u2 K 2 t 0) t s m = true) (c3_81 : ¬ (sp_b (sp_mq (sh_u2 K 2 t 0) t s m l)) = 0) (c4_115 : (Op.cmpValue (FP.dcmp y FP.dconst0) .l) = 0) : sh_cM A md_Hall_acquire [.ref (A 0), .int (nI t), .int (nI s), .int m, .double y] K L (.inl (some (.int 2))) (sh_u2 (sh_u2 (sh_u2 K 2 t 0) 4 t 2) 27 t 0) L := by
  refine sh_cp (fun w Z k => sh_aload_n dc_Hall_acquire_0 rfl rfl k) ?_
  refine sh_cp (fun w Z k => sh_iload_n dc_Hall_acquire_1 rfl rfl k) ?_
  refine sh_ccall (fun w hw => sh_virt (As := [.int (nI t)]) dc_Hall_acquire_2 lm_Hall_workerAt ln_Hall_62 wd_448 wd_3 rfl rfl (Nat.le_of_ble_eq_true rfl) (hw _ _ cw_o0) rfl) (ct_Hall_workerAt_1 (t := t) (by omega)) ⟨(Nat.le_of_ble_eq_true rfl), (Nat.le_of_ble_eq_true rfl), (Nat.le_of_ble_eq_true rfl), (Nat.le_of_ble_eq_true rfl)⟩ ?_
  show sh_cW _ _ (_, _, [.ref (A (10 + t))]) K L _ _ _ _ _
  refine sh_cp (fun w Z k => sh_astore dc_Hall_acquire_5 (by decide) k) ?_
  refine sh_cp (fun w Z k => sh_iload_n dc_Hall_acquire_7 rfl rfl k) ?_
  refine sh_cp (fun w Z k => sh_iconst (v := 0) dc_Hall_acquire_8 (by decide) k) ?_
  refine sh_cp (fun w Z k => sh_iconst (v := 1) dc_Hall_acquire_9 (by decide) k) ?_
  refine sh_ccall (fun w hw => sh_stat (As := [.int m, .int 0, .int 1]) dc_Hall_acquire_10 lm_Hall_checkNumber ln_Hall_39 wd_191 wd_49 rfl rfl (Nat.le_of_ble_eq_true rfl)) (ct_Hall_checkNumber_2 (x := m) (lo := 0) (hi := 1) (sp_m0 hm) (sp_m1 hm)) ⟨(Nat.le_of_ble_eq_true rfl), (Nat.le_of_ble_eq_true rfl), (Nat.le_of_ble_eq_true rfl), (Nat.le_of_ble_eq_true rfl)⟩ ?_
  show sh_cW _ _ (_, _, []) K L _ _ _ _ _
  refine sh_cp (fun w Z k => sh_dload dc_Hall_acquire_13 rfl k) ?_
  refine sh_cp (fun w Z k => sh_iconst (v := (-1)) dc_Hall_acquire_15 (by decide) k) ?_
  refine sh_cp (fun w Z k => sh_sipush (v := 1000) dc_Hall_acquire_16 (by decide) k) ?_
  refine sh_ccall (fun w hw => sh_stat (As := [.double y, .int (-1), .int 1000]) dc_Hall_acquire_19 lm_Hall_checkAmount ln_Hall_66 wd_451 wd_49 rfl rfl (Nat.le_of_ble_eq_true rfl)) (ct_Hall_checkAmount_2 (x := y) (lo := (-1)) (hi := 1000) hl1 hl2) ⟨(Nat.le_of_ble_eq_true rfl), (Nat.le_of_ble_eq_true rfl), (Nat.le_of_ble_eq_true rfl), (Nat.le_of_ble_eq_true rfl)⟩ ?_
  show sh_cW _ _ (_, _, []) K L _ _ _ _ _
  refine sh_cp (fun w Z k => sh_aload_n dc_Hall_acquire_22 rfl rfl k) ?_
  refine sh_cp (fun w Z k => sh_iload_n dc_Hall_acquire_23 rfl rfl k) ?_
  refine sh_ccall (fun w hw => sh_virt (As := [.int (nI s)]) dc_Hall_acquire_24 lm_Hall_syncAt ln_Hall_73 wd_272 wd_2 rfl rfl (Nat.le_of_ble_eq_true rfl) (hw _ _ cw_o0) rfl) (ct_Hall_syncAt_2 (s := s) (by omega) (cw_nz hk_s (by decide))) ⟨(Nat.le_of_ble_eq_true rfl), (Nat.le_of_ble_eq_true rfl), (Nat.le_of_ble_eq_true rfl), (Nat.le_of_ble_eq_true rfl)⟩ ?_
  show sh_cW _ _ (_, _, [.ref (A (20 + s))]) K L _ _ _ _ _
  refine sh_cp (fun w Z k => sh_astore dc_Hall_acquire_27 (by decide) k) ?_
  refine sh_cp (fun w Z k => sh_aload dc_Hall_acquire_29 rfl k) ?_
  refine sh_ccall (fun w hw => sh_stat (As := [.ref (A (10 + t))]) dc_Hall_acquire_31 lm_Hall_checkRunning ln_Hall_77 wd_463 wd_49 rfl rfl (Nat.le_of_ble_eq_true rfl)) (ct_Hall_checkRunning_1 (t := t) (by omega) hp) ⟨(Nat.le_of_ble_eq_true rfl), (Nat.le_of_ble_eq_true rfl), (Nat.le_of_ble_eq_true rfl), (Nat.le_of_ble_eq_true rfl)⟩ ?_
  show sh_cW _ _ (_, _, []) K L _ _ _ _ _
  refine sh_cp (fun w Z k => sh_aload dc_Hall_acquire_34 rfl k) ?_
  refine sh_ccall (fun w hw => sh_stat (As := [.ref (A (20 + s))]) dc_Hall_acquire_36 lm_Hall_gateOf ln_Hall_81 wd_471 wd_49 rfl rfl (Nat.le_of_ble_eq_true rfl)) (ct_Hall_gateOf_Shared_1 (s := s) (by omega) hk_s) ⟨(Nat.le_of_ble_eq_true rfl), (Nat.le_of_ble_eq_true rfl), (Nat.le_of_ble_eq_true rfl), (Nat.le_of_ble_eq_true rfl)⟩ ?_
  show sh_cW _ _ (_, _, [.ref (A (20 + s))]) K L _ _ _ _ _
  refine sh_cp (fun w Z k => sh_astore dc_Hall_acquire_39 (by decide) k) ?_
  refine sh_cp (fun w Z k => sh_aload dc_Hall_acquire_41 rfl k) ?_
  refine sh_ccall (fun w hw => sh_virt (As := []) dc_Hall_acquire_43 lm_Worker_dropFlag ln_Hall_85 wd_492 wd_5 rfl rfl (Nat.le_of_ble_eq_true rfl) (hw _ _ (cw_ow (by omega))) rfl) (ct_Worker_dropFlag_1 (t := t) (by omega) v0_43) ⟨(Nat.le_of_ble_eq_true rfl), (Nat.le_of_ble_eq_true rfl), (Nat.le_of_ble_eq_true rfl), (Nat.le_of_ble_eq_true rfl)⟩ ?_
  show sh_cW _ _ (_, _, [.int (K 2 t)]) (sh_u2 K 2 t 0) L _ _ _ _ _
  refine sh_cp (fun w Z k => sh_if_eq (tgt := 56) dc_Hall_acquire_46 (by decide) (fun _ => k) (fun z => absurd c1_46 z)) ?_
  refine sh_cp (fun w Z k => sh_aload_n dc_Hall_acquire_56 rfl rfl k) ?_
  refine sh_cp (fun w Z k => sh_aload dc_Hall_acquire_57 rfl k) ?_
  refine sh_cp (fun w Z k => sh_aload dc_Hall_acquire_59 rfl k) ?_
  refine sh_cp (fun w Z k => sh_iload_n dc_Hall_acquire_61 rfl rfl k) ?_
  refine sh_ccall (fun w hw => sh_virt (As := [.ref (A (10 + t)), .ref (A (20 + s)), .int (nI s)]) dc_Hall_acquire_62 lm_Hall_keepOrder ln_Hall_92 wd_500 wd_7 rfl rfl (Nat.le_of_ble_eq_true rfl) (hw _ _ cw_o0) rfl) (cl_kon_Shared (t := t) (s := s) (by omega) (by omega) (cw_okr_up (by decide) ho) ((congrArg cw_cl (sh_u2_row (by decide) _)).trans hk_s)) ⟨(Nat.le_of_ble_eq_true rfl), (Nat.le_of_ble_eq_true rfl), (Nat.le_of_ble_eq_true rfl), (Nat.le_of_ble_eq_true rfl)⟩ ?_
  show sh_cW _ _ (_, _, []) (sh_u2 K 2 t 0) L _ _ _ _ _
  refine sh_cp (fun w Z k => sh_aload dc_Hall_acquire_65 rfl k) ?_
  refine sh_cp (fun w Z k => sh_aload dc_Hall_acquire_67 rfl k) ?_
  refine sh_cp (fun w Z k => sh_iload_n dc_Hall_acquire_69 rfl rfl k) ?_
  refine sh_ccall (fun w hw => sh_virtU (As := [.ref (A (10 + t)), .int m]) dc_Hall_acquire_70 lm_Shared_checkWish wd_528 wd_530 (Or.inr ⟨_, _, _, wd_529, wd_540⟩) ⟨by decide, by decide⟩ (by decide +kernel) wd_535 wd_534 rfl rfl (Nat.le_of_ble_eq_true rfl) (hw _ _ (cw_oh (by omega) ((congrArg cw_cl (sh_u2_row (by decide) _)).trans hk_s))) rfl) (cl_cw (t := t) (s := s) (m := m) (by omega) (by omega) (cw_okr_up (by decide) ho) ((congrArg cw_cl (sh_u2_row (by decide) _)).trans hk_s) c2_70) ⟨(Nat.le_of_ble_eq_true rfl), (Nat.le_of_ble_eq_true rfl), (Nat.le_of_ble_eq_true rfl), (Nat.le_of_ble_eq_true rfl)⟩ ?_
  show sh_cW _ _ (_, _, []) (sh_u2 K 2 t 0) L _ _ _ _ _
  refine sh_cp (fun w Z k => sh_aload dc_Hall_acquire_73 rfl k) ?_
  refine sh_cp (fun w Z k => sh_aload dc_Hall_acquire_75 rfl k) ?_
  refine sh_cp (fun w Z k => sh_iload_n dc_Hall_acquire_77 rfl rfl k) ?_
  refine sh_ccall (fun w hw => sh_virtU (As := [.ref (A (10 + t)), .int m]) dc_Hall_acquire_78 lm_Shared_mustQueue wd_541 wd_543 (Or.inl wd_542) ⟨by decide, by decide⟩ (by decide +kernel) wd_563 wd_562 rfl rfl (Nat.le_of_ble_eq_true rfl) (hw _ _ (cw_oh (by omega) ((congrArg cw_cl (sh_u2_row (by decide) _)).trans hk_s))) rfl) (cl_mq_Shared (s := s) (t := t) (m := m) (l := l) (by omega) (by omega) (cw_okr_up (by decide) ho) (cw_row_up (by decide) hr) hm ((congrArg cw_cl (sh_u2_row (by decide) _)).trans hk_s)) ⟨(Nat.le_of_ble_eq_true rfl), (Nat.le_of_ble_eq_true rfl), (Nat.le_of_ble_eq_true rfl), (Nat.le_of_ble_eq_true rfl)⟩ ?_
  show sh_cW _ _ (_, _, [.int (sp_b (sp_mq (sh_u2 K 2 t 0) t s m l))]) (sh_u2 K 2 t 0) L _ _ _ _ _
  refine sh_cp (fun w Z k => sh_if_ne (tgt := 111) dc_Hall_acquire_81 (by decide) (fun _ => k) (fun z => absurd z c3_81)) ?_
  refine sh_cp (fun w Z k => sh_dload dc_Hall_acquire_111 rfl k) ?_
  refine sh_cp (fun w Z k => sh_dconst0 dc_Hall_acquire_113 k) ?_
  refine sh_cp (fun w Z k => sh_dcmp dc_Hall_acquire_114 k) ?_
  refine sh_cp (fun w Z k => sh_if_ne (tgt := 125) dc_Hall_acquire_115 (by decide) (fun z => absurd c4_115 z) (fun _ => k)) ?_
  refine sh_cp (fun w Z k => sh_aload dc_Hall_acquire_118 rfl k) ?_
  refine sh_cp (fun w Z k => sh_iconst (v := 2) dc_Hall_acquire_120 (by decide) k) ?_
  refine sh_ccall (fun w hw => sh_virt (As := [.int 2]) dc_Hall_acquire_121 lm_Worker_finish ln_Hall_89 wd_496 wd_6 rfl rfl (Nat.le_of_ble_eq_true rfl) (hw _ _ (cw_ow (by omega))) rfl) (ct_Worker_finish_1 (t := t) (x := 2) (by omega)) ⟨(Nat.le_of_ble_eq_true rfl), (Nat.le_of_ble_eq_true rfl), (Nat.le_of_ble_eq_true rfl), (Nat.le_of_ble_eq_true rfl)⟩ ?_
  show sh_cW _ _ (_, _, [.int 2]) (sh_u2 (sh_u2 (sh_u2 K 2 t 0) 4 t 2) 27 t 0) L _ _ _ _ _
  exact sh_ce (fun w => sh_ireturn dc_Hall_acquire_124 rfl rfl (by decide) (by decide))
theorem ct_Hall_acquire_Shared_7 {A : Nat → Nat} {K : sh_II} {L : sh_DD} {t : Nat} {s : Nat} {m : Int32} {y : UInt64} {l : List Nat} (ht : t < 6) (hs : s < 8) (hm : m = 0 ∨ m = 1) (hl1 : ¬ (Op.cmpValue (FP.dcmp y (FP.i2d (-1))) .l) < 0) (hl2 : (Op.cmpValue (FP.dcmp y (FP.i2d 1000)) .g) ≤ 0) (hp : (K 5 t) = -1) (ho : cw_okr K) (hr : cw_row K s l) (hlen : l.length < 6) (hk_s : cw_cl (K 12 s) = 7) (v0_43 : narrow .boolean (.int (K 2 t)) = .int (K 2 t)) (c1_46 : (K 2 t) = 0) (c2_70 : ¬ sp_cw (sh_u2 K 2 t 0) t s m = true) (c3_81 : ¬ (sp_b (sp_mq (sh_u2 K 2 t 0) t s m l)) = 0) (c4_115 : ¬ (Op.cmpValue (FP.dcmp y FP.dconst0) .l) = 0) (c5_157 : (Op.cmpValue (FP.dcmp y FP.dconst0) .l) ≤ 0) : sh_cM A md_Hall_acquire [.ref (A 0), .int (nI t), .int (nI s), .int m, .double y] K L (.inl (some (.int ((sp_enq (sh_u2 (sh_u2 (sh_u2 K 2 t 0) 9 t 1) 10 t 1) s t m l) 4 t)))) (sp_enq (sh_u2 (sh_u2 (sh_u2 K 2 t 0) 9 t 1) 10 t 1) s t m l) (sh_u2 L 8 t (L 11 0)) := by
  refine sh_cp (fun w Z k => sh_aload_n dc_Hall_acquire_0 rfl rfl k) ?_
  refine sh_cp (fun w Z k => sh_iload_n dc_Hall_acquire_1 rfl rfl k) ?_
  refine sh_ccall (fun w hw => sh_virt (As := [.int (nI t)]) dc_Hall_acquire_2 lm_Hall_workerAt ln_Hall_62 wd_448 wd_3 rfl rfl (Nat.le_of_ble_eq_true rfl) (hw _ _ cw_o0) rfl) (ct_Hall_workerAt_1 (t := t) (by omega)) ⟨(Nat.le_of_ble_eq_true rfl), (Nat.le_of_ble_eq_true rfl), (Nat.le_of_ble_eq_true rfl), (Nat.le_of_ble_eq_true rfl)⟩ ?_
  show sh_cW _ _ (_, _, [.ref (A (10 + t))]) K L _ _ _ _ _
  refine sh_cp (fun w Z k => sh_astore dc_Hall_acquire_5 (by decide) k) ?_
  refine sh_cp (fun w Z k => sh_iload_n dc_Hall_acquire_7 rfl rfl k) ?_
  refine sh_cp (fun w Z k => sh_iconst (v := 0) dc_Hall_acquire_8 (by decide) k) ?_
  refine sh_cp (fun w Z k => sh_iconst (v := 1) dc_Hall_acquire_9 (by decide) k) ?_
  refine sh_ccall (fun w hw => sh_stat (As := [.int m, .int 0, .int 1]) dc_Hall_acquire_10 lm_Hall_checkNumber ln_Hall_39 wd_191 wd_49 rfl rfl (Nat.le_of_ble_eq_true rfl)) (ct_Hall_checkNumber_2 (x := m) (lo := 0) (hi := 1) (sp_m0 hm) (sp_m1 hm)) ⟨(Nat.le_of_ble_eq_true rfl), (Nat.le_of_ble_eq_true rfl), (Nat.le_of_ble_eq_true rfl), (Nat.le_of_ble_eq_true rfl)⟩ ?_
  show sh_cW _ _ (_, _, []) K L _ _ _ _ _
  refine sh_cp (fun w Z k => sh_dload dc_Hall_acquire_13 rfl k) ?_
  refine sh_cp (fun w Z k => sh_iconst (v := (-1)) dc_Hall_acquire_15 (by decide) k) ?_
  refine sh_cp (fun w Z k => sh_sipush (v := 1000) dc_Hall_acquire_16 (by decide) k) ?_
  refine sh_ccall (fun w hw => sh_stat (As := [.double y, .int (-1), .int 1000]) dc_Hall_acquire_19 lm_Hall_checkAmount ln_Hall_66 wd_451 wd_49 rfl rfl (Nat.le_of_ble_eq_true rfl)) (ct_Hall_checkAmount_2 (x := y) (lo := (-1)) (hi := 1000) hl1 hl2) ⟨(Nat.le_of_ble_eq_true rfl), (Nat.le_of_ble_eq_true rfl), (Nat.le_of_ble_eq_true rfl), (Nat.le_of_ble_eq_true rfl)⟩ ?_
  show sh_cW _ _ (_, _, []) K L _ _ _ _ _
  refine sh_cp (fun w Z k => sh_aload_n dc_Hall_acquire_22 rfl rfl k) ?_
  refine sh_cp (fun w Z k => sh_iload_n dc_Hall_acquire_23 rfl rfl k) ?_
  refine sh_ccall (fun w hw => sh_virt (As := [.int (nI s)]) dc_Hall_acquire_24 lm_Hall_syncAt ln_Hall_73 wd_272 wd_2 rfl rfl (Nat.le_of_ble_eq_true rfl) (hw _ _ cw_o0) rfl) (ct_Hall_syncAt_2 (s := s) (by omega) (cw_nz hk_s (by decide))) ⟨(Nat.le_of_ble_eq_true rfl), (Nat.le_of_ble_eq_true rfl), (Nat.le_of_ble_eq_true rfl), (Nat.le_of_ble_eq_true rfl)⟩ ?_
  show sh_cW _ _ (_, _, [.ref (A (20 + s))]) K L _ _ _ _ _
  refine sh_cp (fun w Z k => sh_astore dc_Hall_acquire_27 (by decide) k) ?_
  refine sh_cp (fun w Z k => sh_aload dc_Hall_acquire_29 rfl k) ?_
  refine sh_ccall (fun w hw => sh_stat (As := [.ref (A (10 + t))]) dc_Hall_acquire_31 lm_Hall_checkRunning ln_Hall_77 wd_463 wd_49 rfl rfl (Nat.le_of_ble_eq_true rfl)) (ct_Hall_checkRunning_1 (t := t) (by omega) hp) ⟨(Nat.le_of_ble_eq_true rfl), (Nat.le_of_ble_eq_true rfl), (Nat.le_of_ble_eq_true rfl), (Nat.le_of_ble_eq_true rfl)⟩ ?_
  show sh_cW _ _ (_, _, []) K L _ _ _ _ _
  refine sh_cp (fun w Z k => sh_aload dc_Hall_acquire_34 rfl k) ?_
  refine sh_ccall (fun w hw => sh_stat (As := [.ref (A (20 + s))]) dc_Hall_acquire_36 lm_Hall_gateOf ln_Hall_81 wd_471 wd_49 rfl rfl (Nat.le_of_ble_eq_true rfl)) (ct_Hall_gateOf_Shared_1 (s := s) (by omega) hk_s) ⟨(Nat.le_of_ble_eq_true rfl), (Nat.le_of_ble_eq_true rfl), (Nat.le_of_ble_eq_true rfl), (Nat.le_of_ble_eq_true rfl)⟩ ?_
  show sh_cW _ _ (_, _, [.ref (A (20 + s))]) K L _ _ _ _ _
  refine sh_cp (fun w Z k => sh_astore dc_Hall_acquire_39 (by decide) k) ?_
  refine sh_cp (fun w Z k => sh_aload dc_Hall_acquire_41 rfl k) ?_
  refine sh_ccall (fun w hw => sh_virt (As := []) dc_Hall_acquire_43 lm_Worker_dropFlag ln_Hall_85 wd_492 wd_5 rfl rfl (Nat.le_of_ble_eq_true rfl) (hw _ _ (cw_ow (by omega))) rfl) (ct_Worker_dropFlag_1 (t := t) (by omega) v0_43) ⟨(Nat.le_of_ble_eq_true rfl), (Nat.le_of_ble_eq_true rfl), (Nat.le_of_ble_eq_true rfl), (Nat.le_of_ble_eq_true rfl)⟩ ?_
  show sh_cW _ _ (_, _, [.int (K 2 t)]) (sh_u2 K 2 t 0) L _ _ _ _ _
  refine sh_cp (fun w Z k => sh_if_eq (tgt := 56) dc_Hall_acquire_46 (by decide) (fun _ => k) (fun z => absurd c1_46 z)) ?_
  refine sh_cp (fun w Z k => sh_aload_n dc_Hall_acquire_56 rfl rfl k) ?_
  refine sh_cp (fun w Z k => sh_aload dc_Hall_acquire_57 rfl k) ?_
  refine sh_cp (fun w Z k => sh_aload dc_Hall_acquire_59 rfl k) ?_
  refine sh_cp (fun w Z k => sh_iload_n dc_Hall_acquire_61 rfl rfl k) ?_
  refine sh_ccall (fun w hw => sh_virt (As := [.ref (A (10 + t)), .ref (A (20 + s)), .int (nI s)]) dc_Hall_acquire_62 lm_Hall_keepOrder ln_Hall_92 wd_500 wd_7 rfl rfl (Nat.le_of_ble_eq_true rfl) (hw _ _ cw_o0) rfl) (cl_kon_Shared (t := t) (s := s) (by omega) (by omega) (cw_okr_up (by decide) ho) ((congrArg cw_cl (sh_u2_row (by decide) _)).trans hk_s)) ⟨(Nat.le_of_ble_eq_true rfl), (Nat.le_of_ble_eq_true rfl), (Nat.le_of_ble_eq_true rfl), (Nat.le_of_ble_eq_true rfl)⟩ ?_
  show sh_cW _ _ (_, _, []) (sh_u2 K 2 t 0) L _ _ _ _ _
  refine sh_cp (fun w Z k => sh_aload dc_Hall_acquire_65 rfl k) ?_
  refine sh_cp (fun w Z k => sh_aload dc_Hall_acquire_67 rfl k) ?_
  refine sh_cp (fun w Z k => sh_iload_n dc_Hall_acquire_69 rfl rfl k) ?_
  refine sh_ccall (fun w hw => sh_virtU (As := [.ref (A (10 + t)), .int m]) dc_Hall_acquire_70 lm_Shared_checkWish wd_528 wd_530 (Or.inr ⟨_, _, _, wd_529, wd_540⟩) ⟨by decide, by decide⟩ (by decide +kernel) wd_535 wd_534 rfl rfl (Nat.le_of_ble_eq_true rfl) (hw _ _ (cw_oh (by omega) ((congrArg cw_cl (sh_u2_row (by decide) _)).trans hk_s))) rfl) (cl_cw (t := t) (s := s) (m := m) (by omega) (by omega) (cw_okr_up (by decide) ho) ((congrArg cw_cl (sh_u2_row (by decide) _)).trans hk_s) c2_70) ⟨(Nat.le_of_ble_eq_true rfl), (Nat.le_of_ble_eq_true rfl), (Nat.le_of_ble_eq_true rfl), (Nat.le_of_ble_eq_true rfl)⟩ ?_
  show sh_cW _ _ (_, _, []) (sh_u2 K 2 t 0) L _ _ _ _ _
  refine sh_cp (fun w Z k => sh_aload dc_Hall_acquire_73 rfl k) ?_
  refine sh_cp (fun w Z k => sh_aload dc_Hall_acquire_75 rfl k) ?_
  refine sh_cp (fun w Z k => sh_iload_n dc_Hall_acquire_77 rfl rfl k) ?_
  refine sh_ccall (fun w hw => sh_virtU (As := [.ref (A (10 + t)), .int m]) dc_Hall_acquire_78 lm_Shared_mustQueue wd_541 wd_543 (Or.inl wd_542) ⟨by decide, by decide⟩ (by decide +kernel) wd_563 wd_562 rfl rfl (Nat.le_of_ble_eq_true rfl) (hw _ _ (cw_oh (by omega) ((congrArg cw_cl (sh_u2_row (by decide) _)).trans hk_s))) rfl) (cl_mq_Shared (s := s) (t := t) (m := m) (l := l) (by omega) (by omega) (cw_okr_up (by decide) ho) (cw_row_up (by decide) hr) hm ((congrArg cw_cl (sh_u2_row (by decide) _)).trans hk_s)) ⟨(Nat.le_of_ble_eq_true rfl), (Nat.le_of_ble_eq_true rfl), (Nat.le_of_ble_eq_true rfl), (Nat.le_of_ble_eq_true rfl)⟩ ?_
  show sh_cW _ _ (_, _, [.int (sp_b (sp_mq (sh_u2 K 2 t 0) t s m l))]) (sh_u2 K 2 t 0) L _ _ _ _ _
  refine sh_cp (fun w Z k => sh_if_ne (tgt := 111) dc_Hall_acquire_81 (by decide) (fun _ => k) (fun z => absurd z c3_81)) ?_
  refine sh_cp (fun w Z k => sh_dload dc_Hall_acquire_111 rfl k) ?_
  refine sh_cp (fun w Z k => sh_dconst0 dc_Hall_acquire_113 k) ?_
  refine sh_cp (fun w Z k => sh_dcmp dc_Hall_acquire_114 k) ?_
  refine sh_cp (fun w Z k => sh_if_ne (tgt := 125) dc_Hall_acquire_115 (by decide) (fun _ => k) (fun z => absurd z c4_115)) ?_
  refine sh_cp (fun w Z k => sh_aload dc_Hall_acquire_125 rfl k) ?_
  refine sh_cp (fun w Z k => sh_iconst (v := 1) dc_Hall_acquire_127 (by decide) k) ?_
  refine sh_cput (K1 := (sh_u2 (sh_u2 K 2 t 0) 9 t 1)) (L1 := L) (10 + t) 9 dc_Hall_acquire_128 (cw_ow (by omega)) rfl (by decide) fl_Hall_113 rfl rfl rfl rfl pd_I rfl rfl (cq_Worker_9 (by omega)) (fun i hi => cw_upI (by decide) hi) ?_
  refine sh_cp (fun w Z k => sh_aload dc_Hall_acquire_131 rfl k) ?_
  refine sh_cp (fun w Z k => sh_iconst (v := 1) dc_Hall_acquire_133 (by decide) k) ?_
  refine sh_cput (K1 := (sh_u2 (sh_u2 (sh_u2 K 2 t 0) 9 t 1) 10 t 1)) (L1 := L) (10 + t) 10 dc_Hall_acquire_134 (cw_ow (by omega)) rfl (by decide) fl_Hall_116 rfl rfl rfl rfl pd_I rfl rfl (cq_Worker_10 (by omega)) (fun i hi => cw_upI (by decide) hi) ?_
  refine sh_cp (fun w Z k => sh_aload dc_Hall_acquire_137 rfl k) ?_
  refine sh_cp (fun w Z k => sh_aload dc_Hall_acquire_139 rfl k) ?_
  refine sh_cp (fun w Z k => sh_iload_n dc_Hall_acquire_141 rfl rfl k) ?_
  refine sh_cp (fun w Z k => sh_aload_n dc_Hall_acquire_142 rfl rfl k) ?_
  refine sh_cget 0 4 dc_Hall_acquire_143 cw_o0 rfl (by decide) fl_Hall_35 rfl rfl rfl rfl ?_
  refine sh_ccall (fun w hw => sh_virtU (As := [.ref (A (10 + t)), .int m, .double (L 11 0)]) dc_Hall_acquire_146 lm_Sync_enqueue wd_604 wd_605 (Or.inl wd_606) ⟨by decide, by decide⟩ (by decide +kernel) wd_611 wd_610 rfl rfl (Nat.le_of_ble_eq_true rfl) (hw _ _ (cw_oh (by omega) ((congrArg cw_cl (Eq.trans (sh_u2_row (by decide) _) (Eq.trans (sh_u2_row (by decide) _) (sh_u2_row (by decide) _)))).trans hk_s))) rfl) (cl_enq_Shared (s := s) (t := t) (m := m) (a := L 11 0) (l := l) (by omega) (by omega) (cw_row_up (by decide) (cw_row_up (by decide) (cw_row_up (by decide) hr))) hlen ((congrArg cw_cl (Eq.trans (sh_u2_row (by decide) _) (Eq.trans (sh_u2_row (by decide) _) (sh_u2_row (by decide) _)))).trans hk_s)) ⟨(Nat.le_of_ble_eq_true rfl), (Nat.le_of_ble_eq_true rfl), (Nat.le_of_ble_eq_true rfl), (Nat.le_of_ble_eq_true rfl)⟩ ?_
  show sh_cW _ _ (_, _, []) (sp_enq (sh_u2 (sh_u2 (sh_u2 K 2 t 0) 9 t 1) 10 t 1) s t m l) (sh_u2 L 8 t (L 11 0)) _ _ _ _ _
  refine sh_cp (fun w Z k => sh_aload dc_Hall_acquire_149 rfl k) ?_
  refine sh_cp (fun w Z k => sh_aload_n dc_Hall_acquire_151 rfl rfl k) ?_
  refine sh_cget 0 4 dc_Hall_acquire_152 cw_o0 rfl (by decide) fl_Hall_35 rfl rfl rfl rfl ?_
  refine sh_ctd (show (sh_u2 L 8 t (L 11 0)) 11 0 = L 11 0 from (sh_u2_row (by decide) _)) ?_
  refine sh_cp (fun w Z k => sh_dload dc_Hall_acquire_155 rfl k) ?_
  refine sh_ccall (fun w hw => sh_virt (As := [.double (L 11 0), .double y]) dc_Hall_acquire_157 lm_Worker_setEnd ln_Hall_123 wd_619 wd_17 rfl rfl (Nat.le_of_ble_eq_true rfl) (hw _ _ (cw_ow (by omega))) rfl) (ct_Worker_setEnd_1 (t := t) (a := L 11 0) (b := y) (by omega) c5_157) ⟨(Nat.le_of_ble_eq_true rfl), (Nat.le_of_ble_eq_true rfl), (Nat.le_of_ble_eq_true rfl), (Nat.le_of_ble_eq_true rfl)⟩ ?_
  show sh_cW _ _ (_, _, []) (sp_enq (sh_u2 (sh_u2 (sh_u2 K 2 t 0) 9 t 1) 10 t 1) s t m l) (sh_u2 L 8 t (L 11 0)) _ _ _ _ _
  refine sh_cp (fun w Z k => sh_aload dc_Hall_acquire_160 rfl k) ?_
  refine sh_cget (10 + t) 3 dc_Hall_acquire_162 (cw_ow (by omega)) rfl (by decide) fl_Hall_127 rfl rfl rfl rfl ?_
  exact sh_ce (fun w => sh_ireturn dc_Hall_acquire_165 rfl rfl (by decide) (by decide))
theorem ct_Hall_acquire_Shared_8 {A : Nat → Nat} {K : sh_II} {L : sh_DD} {t : Nat} {s : Nat} {m : Int32} {y : UInt64} {l : List Nat} (ht : t < 6) (hs : s < 8) (hm : m = 0 ∨ m = 1) (hl1 : ¬ (Op.cmpValue (FP.dcmp y (FP.i2d (-1))) .l) < 0) (hl2 : (Op.cmpValue (FP.dcmp y (FP.i2d 1000)) .g) ≤ 0) (hp : (K 5 t) = -1) (ho : cw_okr K) (hr : cw_row K s l) (hlen : l.length < 6) (hk_s : cw_cl (K 12 s) = 7) (v0_43 : narrow .boolean (.int (K 2 t)) = .int (K 2 t)) (c1_46 : (K 2 t) = 0) (c2_70 : ¬ sp_cw (sh_u2 K 2 t 0) t s m = true) (c3_81 : ¬ (sp_b (sp_mq (sh_u2 K 2 t 0) t s m l)) = 0) (c4_115 : ¬ (Op.cmpValue (FP.dcmp y FP.dconst0) .l) = 0) (c5_157 : ¬ (Op.cmpValue (FP.dcmp y FP.dconst0) .l) ≤ 0) (v6_157 : vf_n64 (FP.dadd (L 11 0) y)) : sh_cM A md_Hall_acquire [.ref (A 0), .int (nI t), .int (nI s), .int m, .double y] K L (.inl (some (.int ((sh_u2 (sp_enq (sh_u2 (sh_u2 (sh_u2 K 2 t 0) 9 t 1) 10 t 1) s t m l) 26 t 1) 4 t)))) (sh_u2 (sp_enq (sh_u2 (sh_u2 (sh_u2 K 2 t 0) 9 t 1) 10 t 1) s t m l) 26 t 1) (sh_u2 (sh_u2 L 8 t (L 11 0)) 7 t (FP.dadd (L 11 0) y)) := by
  refine sh_cp (fun w Z k => sh_aload_n dc_Hall_acquire_0 rfl rfl k) ?_
  refine sh_cp (fun w Z k => sh_iload_n dc_Hall_acquire_1 rfl rfl k) ?_
  refine sh_ccall (fun w hw => sh_virt (As := [.int (nI t)]) dc_Hall_acquire_2 lm_Hall_workerAt ln_Hall_62 wd_448 wd_3 rfl rfl (Nat.le_of_ble_eq_true rfl) (hw _ _ cw_o0) rfl) (ct_Hall_workerAt_1 (t := t) (by omega)) ⟨(Nat.le_of_ble_eq_true rfl), (Nat.le_of_ble_eq_true rfl), (Nat.le_of_ble_eq_true rfl), (Nat.le_of_ble_eq_true rfl)⟩ ?_
  show sh_cW _ _ (_, _, [.ref (A (10 + t))]) K L _ _ _ _ _
  refine sh_cp (fun w Z k => sh_astore dc_Hall_acquire_5 (by decide) k) ?_
  refine sh_cp (fun w Z k => sh_iload_n dc_Hall_acquire_7 rfl rfl k) ?_
  refine sh_cp (fun w Z k => sh_iconst (v := 0) dc_Hall_acquire_8 (by decide) k) ?_
  refine sh_cp (fun w Z k => sh_iconst (v := 1) dc_Hall_acquire_9 (by decide) k) ?_
  refine sh_ccall (fun w hw => sh_stat (As := [.int m, .int 0, .int 1]) dc_Hall_acquire_10 lm_Hall_checkNumber ln_Hall_39 wd_191 wd_49 rfl rfl (Nat.le_of_ble_eq_true rfl)) (ct_Hall_checkNumber_2 (x := m) (lo := 0) (hi := 1) (sp_m0 hm) (sp_m1 hm)) ⟨(Nat.le_of_ble_eq_true rfl), (Nat.le_of_ble_eq_true rfl), (Nat.le_of_ble_eq_true rfl), (Nat.le_of_ble_eq_true rfl)⟩ ?_
  show sh_cW _ _ (_, _, []) K L _ _ _ _ _
  refine sh_cp (fun w Z k => sh_dload dc_Hall_acquire_13 rfl k) ?_
  refine sh_cp (fun w Z k => sh_iconst (v := (-1)) dc_Hall_acquire_15 (by decide) k) ?_
  refine sh_cp (fun w Z k => sh_sipush (v := 1000) dc_Hall_acquire_16 (by decide) k) ?_
  refine sh_ccall (fun w hw => sh_stat (As := [.double y, .int (-1), .int 1000]) dc_Hall_acquire_19 lm_Hall_checkAmount ln_Hall_66 wd_451 wd_49 rfl rfl (Nat.le_of_ble_eq_true rfl)) (ct_Hall_checkAmount_2 (x := y) (lo := (-1)) (hi := 1000) hl1 hl2) ⟨(Nat.le_of_ble_eq_true rfl), (Nat.le_of_ble_eq_true rfl), (Nat.le_of_ble_eq_true rfl), (Nat.le_of_ble_eq_true rfl)⟩ ?_
  show sh_cW _ _ (_, _, []) K L _ _ _ _ _
  refine sh_cp (fun w Z k => sh_aload_n dc_Hall_acquire_22 rfl rfl k) ?_
  refine sh_cp (fun w Z k => sh_iload_n dc_Hall_acquire_23 rfl rfl k) ?_
  refine sh_ccall (fun w hw => sh_virt (As := [.int (nI s)]) dc_Hall_acquire_24 lm_Hall_syncAt ln_Hall_73 wd_272 wd_2 rfl rfl (Nat.le_of_ble_eq_true rfl) (hw _ _ cw_o0) rfl) (ct_Hall_syncAt_2 (s := s) (by omega) (cw_nz hk_s (by decide))) ⟨(Nat.le_of_ble_eq_true rfl), (Nat.le_of_ble_eq_true rfl), (Nat.le_of_ble_eq_true rfl), (Nat.le_of_ble_eq_true rfl)⟩ ?_
  show sh_cW _ _ (_, _, [.ref (A (20 + s))]) K L _ _ _ _ _
  refine sh_cp (fun w Z k => sh_astore dc_Hall_acquire_27 (by decide) k) ?_
  refine sh_cp (fun w Z k => sh_aload dc_Hall_acquire_29 rfl k) ?_
  refine sh_ccall (fun w hw => sh_stat (As := [.ref (A (10 + t))]) dc_Hall_acquire_31 lm_Hall_checkRunning ln_Hall_77 wd_463 wd_49 rfl rfl (Nat.le_of_ble_eq_true rfl)) (ct_Hall_checkRunning_1 (t := t) (by omega) hp) ⟨(Nat.le_of_ble_eq_true rfl), (Nat.le_of_ble_eq_true rfl), (Nat.le_of_ble_eq_true rfl), (Nat.le_of_ble_eq_true rfl)⟩ ?_
  show sh_cW _ _ (_, _, []) K L _ _ _ _ _
  refine sh_cp (fun w Z k => sh_aload dc_Hall_acquire_34 rfl k) ?_
  refine sh_ccall (fun w hw => sh_stat (As := [.ref (A (20 + s))]) dc_Hall_acquire_36 lm_Hall_gateOf ln_Hall_81 wd_471 wd_49 rfl rfl (Nat.le_of_ble_eq_true rfl)) (ct_Hall_gateOf_Shared_1 (s := s) (by omega) hk_s) ⟨(Nat.le_of_ble_eq_true rfl), (Nat.le_of_ble_eq_true rfl), (Nat.le_of_ble_eq_true rfl), (Nat.le_of_ble_eq_true rfl)⟩ ?_
  show sh_cW _ _ (_, _, [.ref (A (20 + s))]) K L _ _ _ _ _
  refine sh_cp (fun w Z k => sh_astore dc_Hall_acquire_39 (by decide) k) ?_
  refine sh_cp (fun w Z k => sh_aload dc_Hall_acquire_41 rfl k) ?_
  refine sh_ccall (fun w hw => sh_virt (As := []) dc_Hall_acquire_43 lm_Worker_dropFlag ln_Hall_85 wd_492 wd_5 rfl rfl (Nat.le_of_ble_eq_true rfl) (hw _ _ (cw_ow (by omega))) rfl) (ct_Worker_dropFlag_1 (t := t) (by omega) v0_43) ⟨(Nat.le_of_ble_eq_true rfl), (Nat.le_of_ble_eq_true rfl), (Nat.le_of_ble_eq_true rfl), (Nat.le_of_ble_eq_true rfl)⟩ ?_
  show sh_cW _ _ (_, _, [.int (K 2 t)]) (sh_u2 K 2 t 0) L _ _ _ _ _
  refine sh_cp (fun w Z k => sh_if_eq (tgt := 56) dc_Hall_acquire_46 (by decide) (fun _ => k) (fun z => absurd c1_46 z)) ?_
  refine sh_cp (fun w Z k => sh_aload_n dc_Hall_acquire_56 rfl rfl k) ?_
  refine sh_cp (fun w Z k => sh_aload dc_Hall_acquire_57 rfl k) ?_
  refine sh_cp (fun w Z k => sh_aload dc_Hall_acquire_59 rfl k) ?_
  refine sh_cp (fun w Z k => sh_iload_n dc_Hall_acquire_61 rfl rfl k) ?_
  refine sh_ccall (fun w hw => sh_virt (As := [.ref (A (10 + t)), .ref (A (20 + s)), .int (nI s)]) dc_Hall_acquire_62 lm_Hall_keepOrder ln_Hall_92 wd_500 wd_7 rfl rfl (Nat.le_of_ble_eq_true rfl) (hw _ _ cw_o0) rfl) (cl_kon_Shared (t := t) (s := s) (by omega) (by omega) (cw_okr_up (by decide) ho) ((congrArg cw_cl (sh_u2_row (by decide) _)).trans hk_s)) ⟨(Nat.le_of_ble_eq_true rfl), (Nat.le_of_ble_eq_true rfl), (Nat.le_of_ble_eq_true rfl), (Nat.le_of_ble_eq_true rfl)⟩ ?_
  show sh_cW _ _ (_, _, []) (sh_u2 K 2 t 0) L _ _ _ _ _
  refine sh_cp (fun w Z k => sh_aload dc_Hall_acquire_65 rfl k) ?_
  refine sh_cp (fun w Z k => sh_aload dc_Hall_acquire_67 rfl k) ?_
  refine sh_cp (fun w Z k => sh_iload_n dc_Hall_acquire_69 rfl rfl k) ?_
  refine sh_ccall (fun w hw => sh_virtU (As := [.ref (A (10 + t)), .int m]) dc_Hall_acquire_70 lm_Shared_checkWish wd_528 wd_530 (Or.inr ⟨_, _, _, wd_529, wd_540⟩) ⟨by decide, by decide⟩ (by decide +kernel) wd_535 wd_534 rfl rfl (Nat.le_of_ble_eq_true rfl) (hw _ _ (cw_oh (by omega) ((congrArg cw_cl (sh_u2_row (by decide) _)).trans hk_s))) rfl) (cl_cw (t := t) (s := s) (m := m) (by omega) (by omega) (cw_okr_up (by decide) ho) ((congrArg cw_cl (sh_u2_row (by decide) _)).trans hk_s) c2_70) ⟨(Nat.le_of_ble_eq_true rfl), (Nat.le_of_ble_eq_true rfl), (Nat.le_of_ble_eq_true rfl), (Nat.le_of_ble_eq_true rfl)⟩ ?_
  show sh_cW _ _ (_, _, []) (sh_u2 K 2 t 0) L _ _ _ _ _
  refine sh_cp (fun w Z k => sh_aload dc_Hall_acquire_73 rfl k) ?_
  refine sh_cp (fun w Z k => sh_aload dc_Hall_acquire_75 rfl k) ?_
  refine sh_cp (fun w Z k => sh_iload_n dc_Hall_acquire_77 rfl rfl k) ?_
  refine sh_ccall (fun w hw => sh_virtU (As := [.ref (A (10 + t)), .int m]) dc_Hall_acquire_78 lm_Shared_mustQueue wd_541 wd_543 (Or.inl wd_542) ⟨by decide, by decide⟩ (by decide +kernel) wd_563 wd_562 rfl rfl (Nat.le_of_ble_eq_true rfl) (hw _ _ (cw_oh (by omega) ((congrArg cw_cl (sh_u2_row (by decide) _)).trans hk_s))) rfl) (cl_mq_Shared (s := s) (t := t) (m := m) (l := l) (by omega) (by omega) (cw_okr_up (by decide) ho) (cw_row_up (by decide) hr) hm ((congrArg cw_cl (sh_u2_row (by decide) _)).trans hk_s)) ⟨(Nat.le_of_ble_eq_true rfl), (Nat.le_of_ble_eq_true rfl), (Nat.le_of_ble_eq_true rfl), (Nat.le_of_ble_eq_true rfl)⟩ ?_
  show sh_cW _ _ (_, _, [.int (sp_b (sp_mq (sh_u2 K 2 t 0) t s m l))]) (sh_u2 K 2 t 0) L _ _ _ _ _
  refine sh_cp (fun w Z k => sh_if_ne (tgt := 111) dc_Hall_acquire_81 (by decide) (fun _ => k) (fun z => absurd z c3_81)) ?_
  refine sh_cp (fun w Z k => sh_dload dc_Hall_acquire_111 rfl k) ?_
  refine sh_cp (fun w Z k => sh_dconst0 dc_Hall_acquire_113 k) ?_
  refine sh_cp (fun w Z k => sh_dcmp dc_Hall_acquire_114 k) ?_
  refine sh_cp (fun w Z k => sh_if_ne (tgt := 125) dc_Hall_acquire_115 (by decide) (fun _ => k) (fun z => absurd z c4_115)) ?_
  refine sh_cp (fun w Z k => sh_aload dc_Hall_acquire_125 rfl k) ?_
  refine sh_cp (fun w Z k => sh_iconst (v := 1) dc_Hall_acquire_127 (by decide) k) ?_
  refine sh_cput (K1 := (sh_u2 (sh_u2 K 2 t 0) 9 t 1)) (L1 := L) (10 + t) 9 dc_Hall_acquire_128 (cw_ow (by omega)) rfl (by decide) fl_Hall_113 rfl rfl rfl rfl pd_I rfl rfl (cq_Worker_9 (by omega)) (fun i hi => cw_upI (by decide) hi) ?_
  refine sh_cp (fun w Z k => sh_aload dc_Hall_acquire_131 rfl k) ?_
  refine sh_cp (fun w Z k => sh_iconst (v := 1) dc_Hall_acquire_133 (by decide) k) ?_
  refine sh_cput (K1 := (sh_u2 (sh_u2 (sh_u2 K 2 t 0) 9 t 1) 10 t 1)) (L1 := L) (10 + t) 10 dc_Hall_acquire_134 (cw_ow (by omega)) rfl (by decide) fl_Hall_116 rfl rfl rfl rfl pd_I rfl rfl (cq_Worker_10 (by omega)) (fun i hi => cw_upI (by decide) hi) ?_
  refine sh_cp (fun w Z k => sh_aload dc_Hall_acquire_137 rfl k) ?_
  refine sh_cp (fun w Z k => sh_aload dc_Hall_acquire_139 rfl k) ?_
  refine sh_cp (fun w Z k => sh_iload_n dc_Hall_acquire_141 rfl rfl k) ?_
  refine sh_cp (fun w Z k => sh_aload_n dc_Hall_acquire_142 rfl rfl k) ?_
  refine sh_cget 0 4 dc_Hall_acquire_143 cw_o0 rfl (by decide) fl_Hall_35 rfl rfl rfl rfl ?_
  refine sh_ccall (fun w hw => sh_virtU (As := [.ref (A (10 + t)), .int m, .double (L 11 0)]) dc_Hall_acquire_146 lm_Sync_enqueue wd_604 wd_605 (Or.inl wd_606) ⟨by decide, by decide⟩ (by decide +kernel) wd_611 wd_610 rfl rfl (Nat.le_of_ble_eq_true rfl) (hw _ _ (cw_oh (by omega) ((congrArg cw_cl (Eq.trans (sh_u2_row (by decide) _) (Eq.trans (sh_u2_row (by decide) _) (sh_u2_row (by decide) _)))).trans hk_s))) rfl) (cl_enq_Shared (s := s) (t := t) (m := m) (a := L 11 0) (l := l) (by omega) (by omega) (cw_row_up (by decide) (cw_row_up (by decide) (cw_row_up (by decide) hr))) hlen ((congrArg cw_cl (Eq.trans (sh_u2_row (by decide) _) (Eq.trans (sh_u2_row (by decide) _) (sh_u2_row (by decide) _)))).trans hk_s)) ⟨(Nat.le_of_ble_eq_true rfl), (Nat.le_of_ble_eq_true rfl), (Nat.le_of_ble_eq_true rfl), (Nat.le_of_ble_eq_true rfl)⟩ ?_
  show sh_cW _ _ (_, _, []) (sp_enq (sh_u2 (sh_u2 (sh_u2 K 2 t 0) 9 t 1) 10 t 1) s t m l) (sh_u2 L 8 t (L 11 0)) _ _ _ _ _
  refine sh_cp (fun w Z k => sh_aload dc_Hall_acquire_149 rfl k) ?_
  refine sh_cp (fun w Z k => sh_aload_n dc_Hall_acquire_151 rfl rfl k) ?_
  refine sh_cget 0 4 dc_Hall_acquire_152 cw_o0 rfl (by decide) fl_Hall_35 rfl rfl rfl rfl ?_
  refine sh_ctd (show (sh_u2 L 8 t (L 11 0)) 11 0 = L 11 0 from (sh_u2_row (by decide) _)) ?_
  refine sh_cp (fun w Z k => sh_dload dc_Hall_acquire_155 rfl k) ?_
  refine sh_ccall (fun w hw => sh_virt (As := [.double (L 11 0), .double y]) dc_Hall_acquire_157 lm_Worker_setEnd ln_Hall_123 wd_619 wd_17 rfl rfl (Nat.le_of_ble_eq_true rfl) (hw _ _ (cw_ow (by omega))) rfl) (ct_Worker_setEnd_2 (t := t) (a := L 11 0) (b := y) (by omega) c5_157 v6_157) ⟨(Nat.le_of_ble_eq_true rfl), (Nat.le_of_ble_eq_true rfl), (Nat.le_of_ble_eq_true rfl), (Nat.le_of_ble_eq_true rfl)⟩ ?_
  show sh_cW _ _ (_, _, []) (sh_u2 (sp_enq (sh_u2 (sh_u2 (sh_u2 K 2 t 0) 9 t 1) 10 t 1) s t m l) 26 t 1) (sh_u2 (sh_u2 L 8 t (L 11 0)) 7 t (FP.dadd (L 11 0) y)) _ _ _ _ _
  refine sh_cp (fun w Z k => sh_aload dc_Hall_acquire_160 rfl k) ?_
  refine sh_cget (10 + t) 3 dc_Hall_acquire_162 (cw_ow (by omega)) rfl (by decide) fl_Hall_127 rfl rfl rfl rfl ?_
  exact sh_ce (fun w => sh_ireturn dc_Hall_acquire_165 rfl rfl (by decide) (by decide))
theorem ct_Hall_acquire_Shared_9 {A : Nat → Nat} {K : sh_II} {L : sh_DD} {t : Nat} {s : Nat} {m : Int32} {y : UInt64} {l : List Nat} (ht : t < 6) (hs : s < 8) (hm : m = 0 ∨ m = 1) (hl1 : ¬ (Op.cmpValue (FP.dcmp y (FP.i2d (-1))) .l) < 0) (hl2 : (Op.cmpValue (FP.dcmp y (FP.i2d 1000)) .g) ≤ 0) (hp : (K 5 t) = -1) (ho : cw_okr K) (hr : cw_row K s l) (hlen : l.length < 6) (hk_s : cw_cl (K 12 s) = 7) (v0_43 : narrow .boolean (.int (K 2 t)) = .int (K 2 t)) (c1_46 : ¬ (K 2 t) = 0) : sh_cM A md_Hall_acquire [.ref (A 0), .int (nI t), .int (nI s), .int m, .double y] K L (.inl (some (.int 3))) (sh_u2 (sh_u2 (sh_u2 K 2 t 0) 4 t 3) 27 t 0) L := by
  refine sh_cp (fun w Z k => sh_aload_n dc_Hall_acquire_0 rfl rfl k) ?_
  refine sh_cp (fun w Z k => sh_iload_n dc_Hall_acquire_1 rfl rfl k) ?_
  refine sh_ccall (fun w hw => sh_virt (As := [.int (nI t)]) dc_Hall_acquire_2 lm_Hall_workerAt ln_Hall_62 wd_448 wd_3 rfl rfl (Nat.le_of_ble_eq_true rfl) (hw _ _ cw_o0) rfl) (ct_Hall_workerAt_1 (t := t) (by omega)) ⟨(Nat.le_of_ble_eq_true rfl), (Nat.le_of_ble_eq_true rfl), (Nat.le_of_ble_eq_true rfl), (Nat.le_of_ble_eq_true rfl)⟩ ?_
  show sh_cW _ _ (_, _, [.ref (A (10 + t))]) K L _ _ _ _ _
  refine sh_cp (fun w Z k => sh_astore dc_Hall_acquire_5 (by decide) k) ?_
  refine sh_cp (fun w Z k => sh_iload_n dc_Hall_acquire_7 rfl rfl k) ?_
  refine sh_cp (fun w Z k => sh_iconst (v := 0) dc_Hall_acquire_8 (by decide) k) ?_
  refine sh_cp (fun w Z k => sh_iconst (v := 1) dc_Hall_acquire_9 (by decide) k) ?_
  refine sh_ccall (fun w hw => sh_stat (As := [.int m, .int 0, .int 1]) dc_Hall_acquire_10 lm_Hall_checkNumber ln_Hall_39 wd_191 wd_49 rfl rfl (Nat.le_of_ble_eq_true rfl)) (ct_Hall_checkNumber_2 (x := m) (lo := 0) (hi := 1) (sp_m0 hm) (sp_m1 hm)) ⟨(Nat.le_of_ble_eq_true rfl), (Nat.le_of_ble_eq_true rfl), (Nat.le_of_ble_eq_true rfl), (Nat.le_of_ble_eq_true rfl)⟩ ?_
  show sh_cW _ _ (_, _, []) K L _ _ _ _ _
  refine sh_cp (fun w Z k => sh_dload dc_Hall_acquire_13 rfl k) ?_
  refine sh_cp (fun w Z k => sh_iconst (v := (-1)) dc_Hall_acquire_15 (by decide) k) ?_
  refine sh_cp (fun w Z k => sh_sipush (v := 1000) dc_Hall_acquire_16 (by decide) k) ?_
  refine sh_ccall (fun w hw => sh_stat (As := [.double y, .int (-1), .int 1000]) dc_Hall_acquire_19 lm_Hall_checkAmount ln_Hall_66 wd_451 wd_49 rfl rfl (Nat.le_of_ble_eq_true rfl)) (ct_Hall_checkAmount_2 (x := y) (lo := (-1)) (hi := 1000) hl1 hl2) ⟨(Nat.le_of_ble_eq_true rfl), (Nat.le_of_ble_eq_true rfl), (Nat.le_of_ble_eq_true rfl), (Nat.le_of_ble_eq_true rfl)⟩ ?_
  show sh_cW _ _ (_, _, []) K L _ _ _ _ _
  refine sh_cp (fun w Z k => sh_aload_n dc_Hall_acquire_22 rfl rfl k) ?_
  refine sh_cp (fun w Z k => sh_iload_n dc_Hall_acquire_23 rfl rfl k) ?_
  refine sh_ccall (fun w hw => sh_virt (As := [.int (nI s)]) dc_Hall_acquire_24 lm_Hall_syncAt ln_Hall_73 wd_272 wd_2 rfl rfl (Nat.le_of_ble_eq_true rfl) (hw _ _ cw_o0) rfl) (ct_Hall_syncAt_2 (s := s) (by omega) (cw_nz hk_s (by decide))) ⟨(Nat.le_of_ble_eq_true rfl), (Nat.le_of_ble_eq_true rfl), (Nat.le_of_ble_eq_true rfl), (Nat.le_of_ble_eq_true rfl)⟩ ?_
  show sh_cW _ _ (_, _, [.ref (A (20 + s))]) K L _ _ _ _ _
  refine sh_cp (fun w Z k => sh_astore dc_Hall_acquire_27 (by decide) k) ?_
  refine sh_cp (fun w Z k => sh_aload dc_Hall_acquire_29 rfl k) ?_
  refine sh_ccall (fun w hw => sh_stat (As := [.ref (A (10 + t))]) dc_Hall_acquire_31 lm_Hall_checkRunning ln_Hall_77 wd_463 wd_49 rfl rfl (Nat.le_of_ble_eq_true rfl)) (ct_Hall_checkRunning_1 (t := t) (by omega) hp) ⟨(Nat.le_of_ble_eq_true rfl), (Nat.le_of_ble_eq_true rfl), (Nat.le_of_ble_eq_true rfl), (Nat.le_of_ble_eq_true rfl)⟩ ?_
  show sh_cW _ _ (_, _, []) K L _ _ _ _ _
  refine sh_cp (fun w Z k => sh_aload dc_Hall_acquire_34 rfl k) ?_
  refine sh_ccall (fun w hw => sh_stat (As := [.ref (A (20 + s))]) dc_Hall_acquire_36 lm_Hall_gateOf ln_Hall_81 wd_471 wd_49 rfl rfl (Nat.le_of_ble_eq_true rfl)) (ct_Hall_gateOf_Shared_1 (s := s) (by omega) hk_s) ⟨(Nat.le_of_ble_eq_true rfl), (Nat.le_of_ble_eq_true rfl), (Nat.le_of_ble_eq_true rfl), (Nat.le_of_ble_eq_true rfl)⟩ ?_
  show sh_cW _ _ (_, _, [.ref (A (20 + s))]) K L _ _ _ _ _
  refine sh_cp (fun w Z k => sh_astore dc_Hall_acquire_39 (by decide) k) ?_
  refine sh_cp (fun w Z k => sh_aload dc_Hall_acquire_41 rfl k) ?_
  refine sh_ccall (fun w hw => sh_virt (As := []) dc_Hall_acquire_43 lm_Worker_dropFlag ln_Hall_85 wd_492 wd_5 rfl rfl (Nat.le_of_ble_eq_true rfl) (hw _ _ (cw_ow (by omega))) rfl) (ct_Worker_dropFlag_1 (t := t) (by omega) v0_43) ⟨(Nat.le_of_ble_eq_true rfl), (Nat.le_of_ble_eq_true rfl), (Nat.le_of_ble_eq_true rfl), (Nat.le_of_ble_eq_true rfl)⟩ ?_
  show sh_cW _ _ (_, _, [.int (K 2 t)]) (sh_u2 K 2 t 0) L _ _ _ _ _
  refine sh_cp (fun w Z k => sh_if_eq (tgt := 56) dc_Hall_acquire_46 (by decide) (fun z => absurd z c1_46) (fun _ => k)) ?_
  refine sh_cp (fun w Z k => sh_aload dc_Hall_acquire_49 rfl k) ?_
  refine sh_cp (fun w Z k => sh_iconst (v := 3) dc_Hall_acquire_51 (by decide) k) ?_
  refine sh_ccall (fun w hw => sh_virt (As := [.int 3]) dc_Hall_acquire_52 lm_Worker_finish ln_Hall_89 wd_496 wd_6 rfl rfl (Nat.le_of_ble_eq_true rfl) (hw _ _ (cw_ow (by omega))) rfl) (ct_Worker_finish_1 (t := t) (x := 3) (by omega)) ⟨(Nat.le_of_ble_eq_true rfl), (Nat.le_of_ble_eq_true rfl), (Nat.le_of_ble_eq_true rfl), (Nat.le_of_ble_eq_true rfl)⟩ ?_
  show sh_cW _ _ (_, _, [.int 3]) (sh_u2 (sh_u2 (sh_u2 K 2 t 0) 4 t 3) 27 t 0) L _ _ _ _ _
  exact sh_ce (fun w => sh_ireturn dc_Hall_acquire_55 rfl rfl (by decide) (by decide))
theorem ct_Hall_release_x_1 {A : Nat → Nat} {K : sh_II} {L : sh_DD} {x : Int32} {o : Int32} {m : Int32} (c0_2 : x < 0) : sh_cM A md_Hall_release [.ref (A 0), .int x, .int o, .int m] K L (.inr 1) K L := by
  refine sh_cp (fun w Z k => sh_aload_n dc_Hall_release_0 rfl rfl k) ?_
  refine sh_cp (fun w Z k => sh_iload_n dc_Hall_release_1 rfl rfl k) ?_
  exact sh_ccallT (fun w hw => sh_virt (As := [.int x]) dc_Hall_release_2 lm_Hall_workerAt ln_Hall_62 wd_448 wd_3 rfl rfl (Nat.le_of_ble_eq_true rfl) (hw _ _ cw_o0) rfl) (ct_Hall_workerAt_x_1 (x := x) c0_2) ⟨(Nat.le_of_ble_eq_true rfl), (Nat.le_of_ble_eq_true rfl), (Nat.le_of_ble_eq_true rfl), (Nat.le_of_ble_eq_true rfl)⟩ rfl
theorem ct_Hall_release_x_2 {A : Nat → Nat} {K : sh_II} {L : sh_DD} {x : Int32} {o : Int32} {m : Int32} (c0_2 : ¬ x < 0) (c1_2 : ¬ x ≤ 5) : sh_cM A md_Hall_release [.ref (A 0), .int x, .int o, .int m] K L (.inr 1) K L := by
  refine sh_cp (fun w Z k => sh_aload_n dc_Hall_release_0 rfl rfl k) ?_
  refine sh_cp (fun w Z k => sh_iload_n dc_Hall_release_1 rfl rfl k) ?_
  exact sh_ccallT (fun w hw => sh_virt (As := [.int x]) dc_Hall_release_2 lm_Hall_workerAt ln_Hall_62 wd_448 wd_3 rfl rfl (Nat.le_of_ble_eq_true rfl) (hw _ _ cw_o0) rfl) (ct_Hall_workerAt_x_2 (x := x) c0_2 c1_2) ⟨(Nat.le_of_ble_eq_true rfl), (Nat.le_of_ble_eq_true rfl), (Nat.le_of_ble_eq_true rfl), (Nat.le_of_ble_eq_true rfl)⟩ rfl
theorem ct_Hall_release_t_1 {A : Nat → Nat} {K : sh_II} {L : sh_DD} {t : Nat} {x : Int32} {m : Int32} (ht : t < 6) (c0_10 : m < 0) : sh_cM A md_Hall_release [.ref (A 0), .int (nI t), .int x, .int m] K L (.inr 1) K L := by
  refine sh_cp (fun w Z k => sh_aload_n dc_Hall_release_0 rfl rfl k) ?_
  refine sh_cp (fun w Z k => sh_iload_n dc_Hall_release_1 rfl rfl k) ?_
  refine sh_ccall (fun w hw => sh_virt (As := [.int (nI t)]) dc_Hall_release_2 lm_Hall_workerAt ln_Hall_62 wd_448 wd_3 rfl rfl (Nat.le_of_ble_eq_true rfl) (hw _ _ cw_o0) rfl) (ct_Hall_workerAt_1 (t := t) (by omega)) ⟨(Nat.le_of_ble_eq_true rfl), (Nat.le_of_ble_eq_true rfl), (Nat.le_of_ble_eq_true rfl), (Nat.le_of_ble_eq_true rfl)⟩ ?_
  show sh_cW _ _ (_, _, [.ref (A (10 + t))]) K L _ _ _ _ _
  refine sh_cp (fun w Z k => sh_astore dc_Hall_release_5 (by decide) k) ?_
  refine sh_cp (fun w Z k => sh_iload_n dc_Hall_release_7 rfl rfl k) ?_
  refine sh_cp (fun w Z k => sh_iconst (v := 0) dc_Hall_release_8 (by decide) k) ?_
  refine sh_cp (fun w Z k => sh_iconst (v := 1) dc_Hall_release_9 (by decide) k) ?_
  exact sh_ccallT (fun w hw => sh_stat (As := [.int m, .int 0, .int 1]) dc_Hall_release_10 lm_Hall_checkNumber ln_Hall_39 wd_191 wd_49 rfl rfl (Nat.le_of_ble_eq_true rfl)) (ct_Hall_checkNumber_1 (x := m) (lo := 0) (hi := 1) c0_10) ⟨(Nat.le_of_ble_eq_true rfl), (Nat.le_of_ble_eq_true rfl), (Nat.le_of_ble_eq_true rfl), (Nat.le_of_ble_eq_true rfl)⟩ rfl
theorem ct_Hall_release_t_2 {A : Nat → Nat} {K : sh_II} {L : sh_DD} {t : Nat} {x : Int32} {m : Int32} (ht : t < 6) (c0_10 : ¬ m < 0) (c1_10 : m ≤ 1) (c2_15 : x < 0) : sh_cM A md_Hall_release [.ref (A 0), .int (nI t), .int x, .int m] K L (.inr 1) K L := by
  refine sh_cp (fun w Z k => sh_aload_n dc_Hall_release_0 rfl rfl k) ?_
  refine sh_cp (fun w Z k => sh_iload_n dc_Hall_release_1 rfl rfl k) ?_
  refine sh_ccall (fun w hw => sh_virt (As := [.int (nI t)]) dc_Hall_release_2 lm_Hall_workerAt ln_Hall_62 wd_448 wd_3 rfl rfl (Nat.le_of_ble_eq_true rfl) (hw _ _ cw_o0) rfl) (ct_Hall_workerAt_1 (t := t) (by omega)) ⟨(Nat.le_of_ble_eq_true rfl), (Nat.le_of_ble_eq_true rfl), (Nat.le_of_ble_eq_true rfl), (Nat.le_of_ble_eq_true rfl)⟩ ?_
  show sh_cW _ _ (_, _, [.ref (A (10 + t))]) K L _ _ _ _ _
  refine sh_cp (fun w Z k => sh_astore dc_Hall_release_5 (by decide) k) ?_
  refine sh_cp (fun w Z k => sh_iload_n dc_Hall_release_7 rfl rfl k) ?_
  refine sh_cp (fun w Z k => sh_iconst (v := 0) dc_Hall_release_8 (by decide) k) ?_
  refine sh_cp (fun w Z k => sh_iconst (v := 1) dc_Hall_release_9 (by decide) k) ?_
  refine sh_ccall (fun w hw => sh_stat (As := [.int m, .int 0, .int 1]) dc_Hall_release_10 lm_Hall_checkNumber ln_Hall_39 wd_191 wd_49 rfl rfl (Nat.le_of_ble_eq_true rfl)) (ct_Hall_checkNumber_2 (x := m) (lo := 0) (hi := 1) c0_10 c1_10) ⟨(Nat.le_of_ble_eq_true rfl), (Nat.le_of_ble_eq_true rfl), (Nat.le_of_ble_eq_true rfl), (Nat.le_of_ble_eq_true rfl)⟩ ?_
  show sh_cW _ _ (_, _, []) K L _ _ _ _ _
  refine sh_cp (fun w Z k => sh_aload_n dc_Hall_release_13 rfl rfl k) ?_
  refine sh_cp (fun w Z k => sh_iload_n dc_Hall_release_14 rfl rfl k) ?_
  exact sh_ccallT (fun w hw => sh_virt (As := [.int x]) dc_Hall_release_15 lm_Hall_syncAt ln_Hall_73 wd_272 wd_2 rfl rfl (Nat.le_of_ble_eq_true rfl) (hw _ _ cw_o0) rfl) (ct_Hall_syncAt_x_1 (x := x) c2_15) ⟨(Nat.le_of_ble_eq_true rfl), (Nat.le_of_ble_eq_true rfl), (Nat.le_of_ble_eq_true rfl), (Nat.le_of_ble_eq_true rfl)⟩ rfl
theorem ct_Hall_release_t_3 {A : Nat → Nat} {K : sh_II} {L : sh_DD} {t : Nat} {x : Int32} {m : Int32} (ht : t < 6) (c0_10 : ¬ m < 0) (c1_10 : m ≤ 1) (c2_15 : ¬ x < 0) (c3_15 : ¬ x ≤ 7) : sh_cM A md_Hall_release [.ref (A 0), .int (nI t), .int x, .int m] K L (.inr 1) K L := by
  refine sh_cp (fun w Z k => sh_aload_n dc_Hall_release_0 rfl rfl k) ?_
  refine sh_cp (fun w Z k => sh_iload_n dc_Hall_release_1 rfl rfl k) ?_
  refine sh_ccall (fun w hw => sh_virt (As := [.int (nI t)]) dc_Hall_release_2 lm_Hall_workerAt ln_Hall_62 wd_448 wd_3 rfl rfl (Nat.le_of_ble_eq_true rfl) (hw _ _ cw_o0) rfl) (ct_Hall_workerAt_1 (t := t) (by omega)) ⟨(Nat.le_of_ble_eq_true rfl), (Nat.le_of_ble_eq_true rfl), (Nat.le_of_ble_eq_true rfl), (Nat.le_of_ble_eq_true rfl)⟩ ?_
  show sh_cW _ _ (_, _, [.ref (A (10 + t))]) K L _ _ _ _ _
  refine sh_cp (fun w Z k => sh_astore dc_Hall_release_5 (by decide) k) ?_
  refine sh_cp (fun w Z k => sh_iload_n dc_Hall_release_7 rfl rfl k) ?_
  refine sh_cp (fun w Z k => sh_iconst (v := 0) dc_Hall_release_8 (by decide) k) ?_
  refine sh_cp (fun w Z k => sh_iconst (v := 1) dc_Hall_release_9 (by decide) k) ?_
  refine sh_ccall (fun w hw => sh_stat (As := [.int m, .int 0, .int 1]) dc_Hall_release_10 lm_Hall_checkNumber ln_Hall_39 wd_191 wd_49 rfl rfl (Nat.le_of_ble_eq_true rfl)) (ct_Hall_checkNumber_2 (x := m) (lo := 0) (hi := 1) c0_10 c1_10) ⟨(Nat.le_of_ble_eq_true rfl), (Nat.le_of_ble_eq_true rfl), (Nat.le_of_ble_eq_true rfl), (Nat.le_of_ble_eq_true rfl)⟩ ?_
  show sh_cW _ _ (_, _, []) K L _ _ _ _ _
  refine sh_cp (fun w Z k => sh_aload_n dc_Hall_release_13 rfl rfl k) ?_
  refine sh_cp (fun w Z k => sh_iload_n dc_Hall_release_14 rfl rfl k) ?_
  exact sh_ccallT (fun w hw => sh_virt (As := [.int x]) dc_Hall_release_15 lm_Hall_syncAt ln_Hall_73 wd_272 wd_2 rfl rfl (Nat.le_of_ble_eq_true rfl) (hw _ _ cw_o0) rfl) (ct_Hall_syncAt_x_2 (x := x) c2_15 c3_15) ⟨(Nat.le_of_ble_eq_true rfl), (Nat.le_of_ble_eq_true rfl), (Nat.le_of_ble_eq_true rfl), (Nat.le_of_ble_eq_true rfl)⟩ rfl
theorem ct_Hall_release_t_4 {A : Nat → Nat} {K : sh_II} {L : sh_DD} {t : Nat} {x : Int32} {m : Int32} (ht : t < 6) (c0_10 : ¬ m < 0) (c1_10 : ¬ m ≤ 1) : sh_cM A md_Hall_release [.ref (A 0), .int (nI t), .int x, .int m] K L (.inr 1) K L := by
  refine sh_cp (fun w Z k => sh_aload_n dc_Hall_release_0 rfl rfl k) ?_
  refine sh_cp (fun w Z k => sh_iload_n dc_Hall_release_1 rfl rfl k) ?_
  refine sh_ccall (fun w hw => sh_virt (As := [.int (nI t)]) dc_Hall_release_2 lm_Hall_workerAt ln_Hall_62 wd_448 wd_3 rfl rfl (Nat.le_of_ble_eq_true rfl) (hw _ _ cw_o0) rfl) (ct_Hall_workerAt_1 (t := t) (by omega)) ⟨(Nat.le_of_ble_eq_true rfl), (Nat.le_of_ble_eq_true rfl), (Nat.le_of_ble_eq_true rfl), (Nat.le_of_ble_eq_true rfl)⟩ ?_
  show sh_cW _ _ (_, _, [.ref (A (10 + t))]) K L _ _ _ _ _
  refine sh_cp (fun w Z k => sh_astore dc_Hall_release_5 (by decide) k) ?_
  refine sh_cp (fun w Z k => sh_iload_n dc_Hall_release_7 rfl rfl k) ?_
  refine sh_cp (fun w Z k => sh_iconst (v := 0) dc_Hall_release_8 (by decide) k) ?_
  refine sh_cp (fun w Z k => sh_iconst (v := 1) dc_Hall_release_9 (by decide) k) ?_
  exact sh_ccallT (fun w hw => sh_stat (As := [.int m, .int 0, .int 1]) dc_Hall_release_10 lm_Hall_checkNumber ln_Hall_39 wd_191 wd_49 rfl rfl (Nat.le_of_ble_eq_true rfl)) (ct_Hall_checkNumber_3 (x := m) (lo := 0) (hi := 1) c0_10 c1_10) ⟨(Nat.le_of_ble_eq_true rfl), (Nat.le_of_ble_eq_true rfl), (Nat.le_of_ble_eq_true rfl), (Nat.le_of_ble_eq_true rfl)⟩ rfl
theorem ct_Hall_release_none_1 {A : Nat → Nat} {K : sh_II} {L : sh_DD} {t : Nat} {s : Nat} {m : Int32} (ht : t < 6) (hs : s < 8) (hz0 : cw_cl (K 12 s) = 0) (hm : m = 0 ∨ m = 1) : sh_cM A md_Hall_release [.ref (A 0), .int (nI t), .int (nI s), .int m] K L (.inr 2) K L := by
  refine sh_cp (fun w Z k => sh_aload_n dc_Hall_release_0 rfl rfl k) ?_
  refine sh_cp (fun w Z k => sh_iload_n dc_Hall_release_1 rfl rfl k) ?_
  refine sh_ccall (fun w hw => sh_virt (As := [.int (nI t)]) dc_Hall_release_2 lm_Hall_workerAt ln_Hall_62 wd_448 wd_3 rfl rfl (Nat.le_of_ble_eq_true rfl) (hw _ _ cw_o0) rfl) (ct_Hall_workerAt_1 (t := t) (by omega)) ⟨(Nat.le_of_ble_eq_true rfl), (Nat.le_of_ble_eq_true rfl), (Nat.le_of_ble_eq_true rfl), (Nat.le_of_ble_eq_true rfl)⟩ ?_
  show sh_cW _ _ (_, _, [.ref (A (10 + t))]) K L _ _ _ _ _
  refine sh_cp (fun w Z k => sh_astore dc_Hall_release_5 (by decide) k) ?_
  refine sh_cp (fun w Z k => sh_iload_n dc_Hall_release_7 rfl rfl k) ?_
  refine sh_cp (fun w Z k => sh_iconst (v := 0) dc_Hall_release_8 (by decide) k) ?_
  refine sh_cp (fun w Z k => sh_iconst (v := 1) dc_Hall_release_9 (by decide) k) ?_
  refine sh_ccall (fun w hw => sh_stat (As := [.int m, .int 0, .int 1]) dc_Hall_release_10 lm_Hall_checkNumber ln_Hall_39 wd_191 wd_49 rfl rfl (Nat.le_of_ble_eq_true rfl)) (ct_Hall_checkNumber_2 (x := m) (lo := 0) (hi := 1) (sp_m0 hm) (sp_m1 hm)) ⟨(Nat.le_of_ble_eq_true rfl), (Nat.le_of_ble_eq_true rfl), (Nat.le_of_ble_eq_true rfl), (Nat.le_of_ble_eq_true rfl)⟩ ?_
  show sh_cW _ _ (_, _, []) K L _ _ _ _ _
  refine sh_cp (fun w Z k => sh_aload_n dc_Hall_release_13 rfl rfl k) ?_
  refine sh_cp (fun w Z k => sh_iload_n dc_Hall_release_14 rfl rfl k) ?_
  exact sh_ccallT (fun w hw => sh_virt (As := [.int (nI s)]) dc_Hall_release_15 lm_Hall_syncAt ln_Hall_73 wd_272 wd_2 rfl rfl (Nat.le_of_ble_eq_true rfl) (hw _ _ cw_o0) rfl) (ct_Hall_syncAt_1 (s := s) (by omega) hz0) ⟨(Nat.le_of_ble_eq_true rfl), (Nat.le_of_ble_eq_true rfl), (Nat.le_of_ble_eq_true rfl), (Nat.le_of_ble_eq_true rfl)⟩ rfl
theorem ct_Hall_release_Lockb_1 {A : Nat → Nat} {K : sh_II} {L : sh_DD} {t : Nat} {s : Nat} {m : Int32} {b : Nat} (ht : t < 6) (hs : s < 8) (hm : m = 0 ∨ m = 1) (hb : b < 8) (eb : K 5 t = nI b) (hk_s : cw_cl (K 12 s) = 4) : sh_cM A md_Hall_release [.ref (A 0), .int (nI t), .int (nI s), .int m] K L (.inr 3) K L := by
  refine sh_cp (fun w Z k => sh_aload_n dc_Hall_release_0 rfl rfl k) ?_
  refine sh_cp (fun w Z k => sh_iload_n dc_Hall_release_1 rfl rfl k) ?_
  refine sh_ccall (fun w hw => sh_virt (As := [.int (nI t)]) dc_Hall_release_2 lm_Hall_workerAt ln_Hall_62 wd_448 wd_3 rfl rfl (Nat.le_of_ble_eq_true rfl) (hw _ _ cw_o0) rfl) (ct_Hall_workerAt_1 (t := t) (by omega)) ⟨(Nat.le_of_ble_eq_true rfl), (Nat.le_of_ble_eq_true rfl), (Nat.le_of_ble_eq_true rfl), (Nat.le_of_ble_eq_true rfl)⟩ ?_
  show sh_cW _ _ (_, _, [.ref (A (10 + t))]) K L _ _ _ _ _
  refine sh_cp (fun w Z k => sh_astore dc_Hall_release_5 (by decide) k) ?_
  refine sh_cp (fun w Z k => sh_iload_n dc_Hall_release_7 rfl rfl k) ?_
  refine sh_cp (fun w Z k => sh_iconst (v := 0) dc_Hall_release_8 (by decide) k) ?_
  refine sh_cp (fun w Z k => sh_iconst (v := 1) dc_Hall_release_9 (by decide) k) ?_
  refine sh_ccall (fun w hw => sh_stat (As := [.int m, .int 0, .int 1]) dc_Hall_release_10 lm_Hall_checkNumber ln_Hall_39 wd_191 wd_49 rfl rfl (Nat.le_of_ble_eq_true rfl)) (ct_Hall_checkNumber_2 (x := m) (lo := 0) (hi := 1) (sp_m0 hm) (sp_m1 hm)) ⟨(Nat.le_of_ble_eq_true rfl), (Nat.le_of_ble_eq_true rfl), (Nat.le_of_ble_eq_true rfl), (Nat.le_of_ble_eq_true rfl)⟩ ?_
  show sh_cW _ _ (_, _, []) K L _ _ _ _ _
  refine sh_cp (fun w Z k => sh_aload_n dc_Hall_release_13 rfl rfl k) ?_
  refine sh_cp (fun w Z k => sh_iload_n dc_Hall_release_14 rfl rfl k) ?_
  refine sh_ccall (fun w hw => sh_virt (As := [.int (nI s)]) dc_Hall_release_15 lm_Hall_syncAt ln_Hall_73 wd_272 wd_2 rfl rfl (Nat.le_of_ble_eq_true rfl) (hw _ _ cw_o0) rfl) (ct_Hall_syncAt_2 (s := s) (by omega) (cw_nz hk_s (by decide))) ⟨(Nat.le_of_ble_eq_true rfl), (Nat.le_of_ble_eq_true rfl), (Nat.le_of_ble_eq_true rfl), (Nat.le_of_ble_eq_true rfl)⟩ ?_
  show sh_cW _ _ (_, _, [.ref (A (20 + s))]) K L _ _ _ _ _
  refine sh_cp (fun w Z k => sh_astore dc_Hall_release_18 (by decide) k) ?_
  refine sh_cp (fun w Z k => sh_aload dc_Hall_release_20 rfl k) ?_
  exact sh_ccallT (fun w hw => sh_stat (As := [.ref (A (10 + t))]) dc_Hall_release_22 lm_Hall_checkRunning ln_Hall_77 wd_463 wd_49 rfl rfl (Nat.le_of_ble_eq_true rfl)) (ct_Hall_checkRunning_2 (t := t) (u5_1 := b) (by omega) (by omega) eb) ⟨(Nat.le_of_ble_eq_true rfl), (Nat.le_of_ble_eq_true rfl), (Nat.le_of_ble_eq_true rfl), (Nat.le_of_ble_eq_true rfl)⟩ rfl
theorem ct_Hall_release_Semaphoreb_1 {A : Nat → Nat} {K : sh_II} {L : sh_DD} {t : Nat} {s : Nat} {m : Int32} {b : Nat} (ht : t < 6) (hs : s < 8) (hm : m = 0 ∨ m = 1) (hb : b < 8) (eb : K 5 t = nI b) (hk_s : cw_cl (K 12 s) = 5) : sh_cM A md_Hall_release [.ref (A 0), .int (nI t), .int (nI s), .int m] K L (.inr 3) K L := by
  refine sh_cp (fun w Z k => sh_aload_n dc_Hall_release_0 rfl rfl k) ?_
  refine sh_cp (fun w Z k => sh_iload_n dc_Hall_release_1 rfl rfl k) ?_
  refine sh_ccall (fun w hw => sh_virt (As := [.int (nI t)]) dc_Hall_release_2 lm_Hall_workerAt ln_Hall_62 wd_448 wd_3 rfl rfl (Nat.le_of_ble_eq_true rfl) (hw _ _ cw_o0) rfl) (ct_Hall_workerAt_1 (t := t) (by omega)) ⟨(Nat.le_of_ble_eq_true rfl), (Nat.le_of_ble_eq_true rfl), (Nat.le_of_ble_eq_true rfl), (Nat.le_of_ble_eq_true rfl)⟩ ?_
  show sh_cW _ _ (_, _, [.ref (A (10 + t))]) K L _ _ _ _ _
  refine sh_cp (fun w Z k => sh_astore dc_Hall_release_5 (by decide) k) ?_
  refine sh_cp (fun w Z k => sh_iload_n dc_Hall_release_7 rfl rfl k) ?_
  refine sh_cp (fun w Z k => sh_iconst (v := 0) dc_Hall_release_8 (by decide) k) ?_
  refine sh_cp (fun w Z k => sh_iconst (v := 1) dc_Hall_release_9 (by decide) k) ?_
  refine sh_ccall (fun w hw => sh_stat (As := [.int m, .int 0, .int 1]) dc_Hall_release_10 lm_Hall_checkNumber ln_Hall_39 wd_191 wd_49 rfl rfl (Nat.le_of_ble_eq_true rfl)) (ct_Hall_checkNumber_2 (x := m) (lo := 0) (hi := 1) (sp_m0 hm) (sp_m1 hm)) ⟨(Nat.le_of_ble_eq_true rfl), (Nat.le_of_ble_eq_true rfl), (Nat.le_of_ble_eq_true rfl), (Nat.le_of_ble_eq_true rfl)⟩ ?_
  show sh_cW _ _ (_, _, []) K L _ _ _ _ _
  refine sh_cp (fun w Z k => sh_aload_n dc_Hall_release_13 rfl rfl k) ?_
  refine sh_cp (fun w Z k => sh_iload_n dc_Hall_release_14 rfl rfl k) ?_
  refine sh_ccall (fun w hw => sh_virt (As := [.int (nI s)]) dc_Hall_release_15 lm_Hall_syncAt ln_Hall_73 wd_272 wd_2 rfl rfl (Nat.le_of_ble_eq_true rfl) (hw _ _ cw_o0) rfl) (ct_Hall_syncAt_2 (s := s) (by omega) (cw_nz hk_s (by decide))) ⟨(Nat.le_of_ble_eq_true rfl), (Nat.le_of_ble_eq_true rfl), (Nat.le_of_ble_eq_true rfl), (Nat.le_of_ble_eq_true rfl)⟩ ?_
  show sh_cW _ _ (_, _, [.ref (A (20 + s))]) K L _ _ _ _ _
  refine sh_cp (fun w Z k => sh_astore dc_Hall_release_18 (by decide) k) ?_
  refine sh_cp (fun w Z k => sh_aload dc_Hall_release_20 rfl k) ?_
  exact sh_ccallT (fun w hw => sh_stat (As := [.ref (A (10 + t))]) dc_Hall_release_22 lm_Hall_checkRunning ln_Hall_77 wd_463 wd_49 rfl rfl (Nat.le_of_ble_eq_true rfl)) (ct_Hall_checkRunning_2 (t := t) (u5_1 := b) (by omega) (by omega) eb) ⟨(Nat.le_of_ble_eq_true rfl), (Nat.le_of_ble_eq_true rfl), (Nat.le_of_ble_eq_true rfl), (Nat.le_of_ble_eq_true rfl)⟩ rfl
theorem ct_Hall_release_Latchb_1 {A : Nat → Nat} {K : sh_II} {L : sh_DD} {t : Nat} {s : Nat} {m : Int32} {b : Nat} (ht : t < 6) (hs : s < 8) (hm : m = 0 ∨ m = 1) (hb : b < 8) (eb : K 5 t = nI b) (hk_s : cw_cl (K 12 s) = 6) : sh_cM A md_Hall_release [.ref (A 0), .int (nI t), .int (nI s), .int m] K L (.inr 3) K L := by
  refine sh_cp (fun w Z k => sh_aload_n dc_Hall_release_0 rfl rfl k) ?_
  refine sh_cp (fun w Z k => sh_iload_n dc_Hall_release_1 rfl rfl k) ?_
  refine sh_ccall (fun w hw => sh_virt (As := [.int (nI t)]) dc_Hall_release_2 lm_Hall_workerAt ln_Hall_62 wd_448 wd_3 rfl rfl (Nat.le_of_ble_eq_true rfl) (hw _ _ cw_o0) rfl) (ct_Hall_workerAt_1 (t := t) (by omega)) ⟨(Nat.le_of_ble_eq_true rfl), (Nat.le_of_ble_eq_true rfl), (Nat.le_of_ble_eq_true rfl), (Nat.le_of_ble_eq_true rfl)⟩ ?_
  show sh_cW _ _ (_, _, [.ref (A (10 + t))]) K L _ _ _ _ _
  refine sh_cp (fun w Z k => sh_astore dc_Hall_release_5 (by decide) k) ?_
  refine sh_cp (fun w Z k => sh_iload_n dc_Hall_release_7 rfl rfl k) ?_
  refine sh_cp (fun w Z k => sh_iconst (v := 0) dc_Hall_release_8 (by decide) k) ?_
  refine sh_cp (fun w Z k => sh_iconst (v := 1) dc_Hall_release_9 (by decide) k) ?_
  refine sh_ccall (fun w hw => sh_stat (As := [.int m, .int 0, .int 1]) dc_Hall_release_10 lm_Hall_checkNumber ln_Hall_39 wd_191 wd_49 rfl rfl (Nat.le_of_ble_eq_true rfl)) (ct_Hall_checkNumber_2 (x := m) (lo := 0) (hi := 1) (sp_m0 hm) (sp_m1 hm)) ⟨(Nat.le_of_ble_eq_true rfl), (Nat.le_of_ble_eq_true rfl), (Nat.le_of_ble_eq_true rfl), (Nat.le_of_ble_eq_true rfl)⟩ ?_
  show sh_cW _ _ (_, _, []) K L _ _ _ _ _
  refine sh_cp (fun w Z k => sh_aload_n dc_Hall_release_13 rfl rfl k) ?_
  refine sh_cp (fun w Z k => sh_iload_n dc_Hall_release_14 rfl rfl k) ?_
  refine sh_ccall (fun w hw => sh_virt (As := [.int (nI s)]) dc_Hall_release_15 lm_Hall_syncAt ln_Hall_73 wd_272 wd_2 rfl rfl (Nat.le_of_ble_eq_true rfl) (hw _ _ cw_o0) rfl) (ct_Hall_syncAt_2 (s := s) (by omega) (cw_nz hk_s (by decide))) ⟨(Nat.le_of_ble_eq_true rfl), (Nat.le_of_ble_eq_true rfl), (Nat.le_of_ble_eq_true rfl), (Nat.le_of_ble_eq_true rfl)⟩ ?_
  show sh_cW _ _ (_, _, [.ref (A (20 + s))]) K L _ _ _ _ _
  refine sh_cp (fun w Z k => sh_astore dc_Hall_release_18 (by decide) k) ?_
  refine sh_cp (fun w Z k => sh_aload dc_Hall_release_20 rfl k) ?_
  exact sh_ccallT (fun w hw => sh_stat (As := [.ref (A (10 + t))]) dc_Hall_release_22 lm_Hall_checkRunning ln_Hall_77 wd_463 wd_49 rfl rfl (Nat.le_of_ble_eq_true rfl)) (ct_Hall_checkRunning_2 (t := t) (u5_1 := b) (by omega) (by omega) eb) ⟨(Nat.le_of_ble_eq_true rfl), (Nat.le_of_ble_eq_true rfl), (Nat.le_of_ble_eq_true rfl), (Nat.le_of_ble_eq_true rfl)⟩ rfl
theorem ct_Hall_release_Sharedb_1 {A : Nat → Nat} {K : sh_II} {L : sh_DD} {t : Nat} {s : Nat} {m : Int32} {b : Nat} (ht : t < 6) (hs : s < 8) (hm : m = 0 ∨ m = 1) (hb : b < 8) (eb : K 5 t = nI b) (hk_s : cw_cl (K 12 s) = 7) : sh_cM A md_Hall_release [.ref (A 0), .int (nI t), .int (nI s), .int m] K L (.inr 3) K L := by
  refine sh_cp (fun w Z k => sh_aload_n dc_Hall_release_0 rfl rfl k) ?_
  refine sh_cp (fun w Z k => sh_iload_n dc_Hall_release_1 rfl rfl k) ?_
  refine sh_ccall (fun w hw => sh_virt (As := [.int (nI t)]) dc_Hall_release_2 lm_Hall_workerAt ln_Hall_62 wd_448 wd_3 rfl rfl (Nat.le_of_ble_eq_true rfl) (hw _ _ cw_o0) rfl) (ct_Hall_workerAt_1 (t := t) (by omega)) ⟨(Nat.le_of_ble_eq_true rfl), (Nat.le_of_ble_eq_true rfl), (Nat.le_of_ble_eq_true rfl), (Nat.le_of_ble_eq_true rfl)⟩ ?_
  show sh_cW _ _ (_, _, [.ref (A (10 + t))]) K L _ _ _ _ _
  refine sh_cp (fun w Z k => sh_astore dc_Hall_release_5 (by decide) k) ?_
  refine sh_cp (fun w Z k => sh_iload_n dc_Hall_release_7 rfl rfl k) ?_
  refine sh_cp (fun w Z k => sh_iconst (v := 0) dc_Hall_release_8 (by decide) k) ?_
  refine sh_cp (fun w Z k => sh_iconst (v := 1) dc_Hall_release_9 (by decide) k) ?_
  refine sh_ccall (fun w hw => sh_stat (As := [.int m, .int 0, .int 1]) dc_Hall_release_10 lm_Hall_checkNumber ln_Hall_39 wd_191 wd_49 rfl rfl (Nat.le_of_ble_eq_true rfl)) (ct_Hall_checkNumber_2 (x := m) (lo := 0) (hi := 1) (sp_m0 hm) (sp_m1 hm)) ⟨(Nat.le_of_ble_eq_true rfl), (Nat.le_of_ble_eq_true rfl), (Nat.le_of_ble_eq_true rfl), (Nat.le_of_ble_eq_true rfl)⟩ ?_
  show sh_cW _ _ (_, _, []) K L _ _ _ _ _
  refine sh_cp (fun w Z k => sh_aload_n dc_Hall_release_13 rfl rfl k) ?_
  refine sh_cp (fun w Z k => sh_iload_n dc_Hall_release_14 rfl rfl k) ?_
  refine sh_ccall (fun w hw => sh_virt (As := [.int (nI s)]) dc_Hall_release_15 lm_Hall_syncAt ln_Hall_73 wd_272 wd_2 rfl rfl (Nat.le_of_ble_eq_true rfl) (hw _ _ cw_o0) rfl) (ct_Hall_syncAt_2 (s := s) (by omega) (cw_nz hk_s (by decide))) ⟨(Nat.le_of_ble_eq_true rfl), (Nat.le_of_ble_eq_true rfl), (Nat.le_of_ble_eq_true rfl), (Nat.le_of_ble_eq_true rfl)⟩ ?_
  show sh_cW _ _ (_, _, [.ref (A (20 + s))]) K L _ _ _ _ _
  refine sh_cp (fun w Z k => sh_astore dc_Hall_release_18 (by decide) k) ?_
  refine sh_cp (fun w Z k => sh_aload dc_Hall_release_20 rfl k) ?_
  exact sh_ccallT (fun w hw => sh_stat (As := [.ref (A (10 + t))]) dc_Hall_release_22 lm_Hall_checkRunning ln_Hall_77 wd_463 wd_49 rfl rfl (Nat.le_of_ble_eq_true rfl)) (ct_Hall_checkRunning_2 (t := t) (u5_1 := b) (by omega) (by omega) eb) ⟨(Nat.le_of_ble_eq_true rfl), (Nat.le_of_ble_eq_true rfl), (Nat.le_of_ble_eq_true rfl), (Nat.le_of_ble_eq_true rfl)⟩ rfl
theorem ct_Hall_release_Conditionb_1 {A : Nat → Nat} {K : sh_II} {L : sh_DD} {t : Nat} {s : Nat} {m : Int32} {b : Nat} (ht : t < 6) (hs : s < 8) (hm : m = 0 ∨ m = 1) (hb : b < 8) (eb : K 5 t = nI b) (hk_s : cw_cl (K 12 s) = 8) : sh_cM A md_Hall_release [.ref (A 0), .int (nI t), .int (nI s), .int m] K L (.inr 3) K L := by
  refine sh_cp (fun w Z k => sh_aload_n dc_Hall_release_0 rfl rfl k) ?_
  refine sh_cp (fun w Z k => sh_iload_n dc_Hall_release_1 rfl rfl k) ?_
  refine sh_ccall (fun w hw => sh_virt (As := [.int (nI t)]) dc_Hall_release_2 lm_Hall_workerAt ln_Hall_62 wd_448 wd_3 rfl rfl (Nat.le_of_ble_eq_true rfl) (hw _ _ cw_o0) rfl) (ct_Hall_workerAt_1 (t := t) (by omega)) ⟨(Nat.le_of_ble_eq_true rfl), (Nat.le_of_ble_eq_true rfl), (Nat.le_of_ble_eq_true rfl), (Nat.le_of_ble_eq_true rfl)⟩ ?_
  show sh_cW _ _ (_, _, [.ref (A (10 + t))]) K L _ _ _ _ _
  refine sh_cp (fun w Z k => sh_astore dc_Hall_release_5 (by decide) k) ?_
  refine sh_cp (fun w Z k => sh_iload_n dc_Hall_release_7 rfl rfl k) ?_
  refine sh_cp (fun w Z k => sh_iconst (v := 0) dc_Hall_release_8 (by decide) k) ?_
  refine sh_cp (fun w Z k => sh_iconst (v := 1) dc_Hall_release_9 (by decide) k) ?_
  refine sh_ccall (fun w hw => sh_stat (As := [.int m, .int 0, .int 1]) dc_Hall_release_10 lm_Hall_checkNumber ln_Hall_39 wd_191 wd_49 rfl rfl (Nat.le_of_ble_eq_true rfl)) (ct_Hall_checkNumber_2 (x := m) (lo := 0) (hi := 1) (sp_m0 hm) (sp_m1 hm)) ⟨(Nat.le_of_ble_eq_true rfl), (Nat.le_of_ble_eq_true rfl), (Nat.le_of_ble_eq_true rfl), (Nat.le_of_ble_eq_true rfl)⟩ ?_
  show sh_cW _ _ (_, _, []) K L _ _ _ _ _
  refine sh_cp (fun w Z k => sh_aload_n dc_Hall_release_13 rfl rfl k) ?_
  refine sh_cp (fun w Z k => sh_iload_n dc_Hall_release_14 rfl rfl k) ?_
  refine sh_ccall (fun w hw => sh_virt (As := [.int (nI s)]) dc_Hall_release_15 lm_Hall_syncAt ln_Hall_73 wd_272 wd_2 rfl rfl (Nat.le_of_ble_eq_true rfl) (hw _ _ cw_o0) rfl) (ct_Hall_syncAt_2 (s := s) (by omega) (cw_nz hk_s (by decide))) ⟨(Nat.le_of_ble_eq_true rfl), (Nat.le_of_ble_eq_true rfl), (Nat.le_of_ble_eq_true rfl), (Nat.le_of_ble_eq_true rfl)⟩ ?_
  show sh_cW _ _ (_, _, [.ref (A (20 + s))]) K L _ _ _ _ _
  refine sh_cp (fun w Z k => sh_astore dc_Hall_release_18 (by decide) k) ?_
  refine sh_cp (fun w Z k => sh_aload dc_Hall_release_20 rfl k) ?_
  exact sh_ccallT (fun w hw => sh_stat (As := [.ref (A (10 + t))]) dc_Hall_release_22 lm_Hall_checkRunning ln_Hall_77 wd_463 wd_49 rfl rfl (Nat.le_of_ble_eq_true rfl)) (ct_Hall_checkRunning_2 (t := t) (u5_1 := b) (by omega) (by omega) eb) ⟨(Nat.le_of_ble_eq_true rfl), (Nat.le_of_ble_eq_true rfl), (Nat.le_of_ble_eq_true rfl), (Nat.le_of_ble_eq_true rfl)⟩ rfl
theorem ct_Hall_release_Condition_1 {A : Nat → Nat} {K : sh_II} {L : sh_DD} {t : Nat} {s : Nat} {m : Int32} (ht : t < 6) (hs : s < 8) (hm : m = 0 ∨ m = 1) (hp : (K 5 t) = -1) (hk_s : cw_cl (K 12 s) = 8) : sh_cM A md_Hall_release [.ref (A 0), .int (nI t), .int (nI s), .int m] K L (.inr 4) K L := by
  refine sh_cp (fun w Z k => sh_aload_n dc_Hall_release_0 rfl rfl k) ?_
  refine sh_cp (fun w Z k => sh_iload_n dc_Hall_release_1 rfl rfl k) ?_
  refine sh_ccall (fun w hw => sh_virt (As := [.int (nI t)]) dc_Hall_release_2 lm_Hall_workerAt ln_Hall_62 wd_448 wd_3 rfl rfl (Nat.le_of_ble_eq_true rfl) (hw _ _ cw_o0) rfl) (ct_Hall_workerAt_1 (t := t) (by omega)) ⟨(Nat.le_of_ble_eq_true rfl), (Nat.le_of_ble_eq_true rfl), (Nat.le_of_ble_eq_true rfl), (Nat.le_of_ble_eq_true rfl)⟩ ?_
  show sh_cW _ _ (_, _, [.ref (A (10 + t))]) K L _ _ _ _ _
  refine sh_cp (fun w Z k => sh_astore dc_Hall_release_5 (by decide) k) ?_
  refine sh_cp (fun w Z k => sh_iload_n dc_Hall_release_7 rfl rfl k) ?_
  refine sh_cp (fun w Z k => sh_iconst (v := 0) dc_Hall_release_8 (by decide) k) ?_
  refine sh_cp (fun w Z k => sh_iconst (v := 1) dc_Hall_release_9 (by decide) k) ?_
  refine sh_ccall (fun w hw => sh_stat (As := [.int m, .int 0, .int 1]) dc_Hall_release_10 lm_Hall_checkNumber ln_Hall_39 wd_191 wd_49 rfl rfl (Nat.le_of_ble_eq_true rfl)) (ct_Hall_checkNumber_2 (x := m) (lo := 0) (hi := 1) (sp_m0 hm) (sp_m1 hm)) ⟨(Nat.le_of_ble_eq_true rfl), (Nat.le_of_ble_eq_true rfl), (Nat.le_of_ble_eq_true rfl), (Nat.le_of_ble_eq_true rfl)⟩ ?_
  show sh_cW _ _ (_, _, []) K L _ _ _ _ _
  refine sh_cp (fun w Z k => sh_aload_n dc_Hall_release_13 rfl rfl k) ?_
  refine sh_cp (fun w Z k => sh_iload_n dc_Hall_release_14 rfl rfl k) ?_
  refine sh_ccall (fun w hw => sh_virt (As := [.int (nI s)]) dc_Hall_release_15 lm_Hall_syncAt ln_Hall_73 wd_272 wd_2 rfl rfl (Nat.le_of_ble_eq_true rfl) (hw _ _ cw_o0) rfl) (ct_Hall_syncAt_2 (s := s) (by omega) (cw_nz hk_s (by decide))) ⟨(Nat.le_of_ble_eq_true rfl), (Nat.le_of_ble_eq_true rfl), (Nat.le_of_ble_eq_true rfl), (Nat.le_of_ble_eq_true rfl)⟩ ?_
  show sh_cW _ _ (_, _, [.ref (A (20 + s))]) K L _ _ _ _ _
  refine sh_cp (fun w Z k => sh_astore dc_Hall_release_18 (by decide) k) ?_
  refine sh_cp (fun w Z k => sh_aload dc_Hall_release_20 rfl k) ?_
  refine sh_ccall (fun w hw => sh_stat (As := [.ref (A (10 + t))]) dc_Hall_release_22 lm_Hall_checkRunning ln_Hall_77 wd_463 wd_49 rfl rfl (Nat.le_of_ble_eq_true rfl)) (ct_Hall_checkRunning_1 (t := t) (by omega) hp) ⟨(Nat.le_of_ble_eq_true rfl), (Nat.le_of_ble_eq_true rfl), (Nat.le_of_ble_eq_true rfl), (Nat.le_of_ble_eq_true rfl)⟩ ?_
  show sh_cW _ _ (_, _, []) K L _ _ _ _ _
  refine sh_cp (fun w Z k => sh_aload dc_Hall_release_25 rfl k) ?_
  exact sh_ccallT (fun w hw => sh_stat (As := [.ref (A (20 + s))]) dc_Hall_release_27 lm_Hall_gateOf ln_Hall_81 wd_471 wd_49 rfl rfl (Nat.le_of_ble_eq_true rfl)) (ct_Hall_gateOf_Condition_1 (s := s) (by omega) hk_s) ⟨(Nat.le_of_ble_eq_true rfl), (Nat.le_of_ble_eq_true rfl), (Nat.le_of_ble_eq_true rfl), (Nat.le_of_ble_eq_true rfl)⟩ rfl
theorem ct_Hall_release_Lock_1 {A : Nat → Nat} {K : sh_II} {L : sh_DD} {t : Nat} {s : Nat} {m : Int32} {l : List Nat} (ht : t < 6) (hs : s < 8) (hm : m = 0 ∨ m = 1) (hp : (K 5 t) = -1) (hr : cw_row K s l) (hk_s : cw_cl (K 12 s) = 4) (c0_47 : (K 13 s) = -1) : sh_cM A md_Hall_release [.ref (A 0), .int (nI t), .int (nI s), .int m] K L (.inr 3) K L := by
  refine sh_cp (fun w Z k => sh_aload_n dc_Hall_release_0 rfl rfl k) ?_
  refine sh_cp (fun w Z k => sh_iload_n dc_Hall_release_1 rfl rfl k) ?_
  refine sh_ccall (fun w hw => sh_virt (As := [.int (nI t)]) dc_Hall_release_2 lm_Hall_workerAt ln_Hall_62 wd_448 wd_3 rfl rfl (Nat.le_of_ble_eq_true rfl) (hw _ _ cw_o0) rfl) (ct_Hall_workerAt_1 (t := t) (by omega)) ⟨(Nat.le_of_ble_eq_true rfl), (Nat.le_of_ble_eq_true rfl), (Nat.le_of_ble_eq_true rfl), (Nat.le_of_ble_eq_true rfl)⟩ ?_
  show sh_cW _ _ (_, _, [.ref (A (10 + t))]) K L _ _ _ _ _
  refine sh_cp (fun w Z k => sh_astore dc_Hall_release_5 (by decide) k) ?_
  refine sh_cp (fun w Z k => sh_iload_n dc_Hall_release_7 rfl rfl k) ?_
  refine sh_cp (fun w Z k => sh_iconst (v := 0) dc_Hall_release_8 (by decide) k) ?_
  refine sh_cp (fun w Z k => sh_iconst (v := 1) dc_Hall_release_9 (by decide) k) ?_
  refine sh_ccall (fun w hw => sh_stat (As := [.int m, .int 0, .int 1]) dc_Hall_release_10 lm_Hall_checkNumber ln_Hall_39 wd_191 wd_49 rfl rfl (Nat.le_of_ble_eq_true rfl)) (ct_Hall_checkNumber_2 (x := m) (lo := 0) (hi := 1) (sp_m0 hm) (sp_m1 hm)) ⟨(Nat.le_of_ble_eq_true rfl), (Nat.le_of_ble_eq_true rfl), (Nat.le_of_ble_eq_true rfl), (Nat.le_of_ble_eq_true rfl)⟩ ?_
  show sh_cW _ _ (_, _, []) K L _ _ _ _ _
  refine sh_cp (fun w Z k => sh_aload_n dc_Hall_release_13 rfl rfl k) ?_
  refine sh_cp (fun w Z k => sh_iload_n dc_Hall_release_14 rfl rfl k) ?_
  refine sh_ccall (fun w hw => sh_virt (As := [.int (nI s)]) dc_Hall_release_15 lm_Hall_syncAt ln_Hall_73 wd_272 wd_2 rfl rfl (Nat.le_of_ble_eq_true rfl) (hw _ _ cw_o0) rfl) (ct_Hall_syncAt_2 (s := s) (by omega) (cw_nz hk_s (by decide))) ⟨(Nat.le_of_ble_eq_true rfl), (Nat.le_of_ble_eq_true rfl), (Nat.le_of_ble_eq_true rfl), (Nat.le_of_ble_eq_true rfl)⟩ ?_
  show sh_cW _ _ (_, _, [.ref (A (20 + s))]) K L _ _ _ _ _
  refine sh_cp (fun w Z k => sh_astore dc_Hall_release_18 (by decide) k) ?_
  refine sh_cp (fun w Z k => sh_aload dc_Hall_release_20 rfl k) ?_
  refine sh_ccall (fun w hw => sh_stat (As := [.ref (A (10 + t))]) dc_Hall_release_22 lm_Hall_checkRunning ln_Hall_77 wd_463 wd_49 rfl rfl (Nat.le_of_ble_eq_true rfl)) (ct_Hall_checkRunning_1 (t := t) (by omega) hp) ⟨(Nat.le_of_ble_eq_true rfl), (Nat.le_of_ble_eq_true rfl), (Nat.le_of_ble_eq_true rfl), (Nat.le_of_ble_eq_true rfl)⟩ ?_
  show sh_cW _ _ (_, _, []) K L _ _ _ _ _
  refine sh_cp (fun w Z k => sh_aload dc_Hall_release_25 rfl k) ?_
  refine sh_ccall (fun w hw => sh_stat (As := [.ref (A (20 + s))]) dc_Hall_release_27 lm_Hall_gateOf ln_Hall_81 wd_471 wd_49 rfl rfl (Nat.le_of_ble_eq_true rfl)) (ct_Hall_gateOf_Lock_1 (s := s) (by omega) hk_s) ⟨(Nat.le_of_ble_eq_true rfl), (Nat.le_of_ble_eq_true rfl), (Nat.le_of_ble_eq_true rfl), (Nat.le_of_ble_eq_true rfl)⟩ ?_
  show sh_cW _ _ (_, _, [.ref (A (20 + s))]) K L _ _ _ _ _
  refine sh_cp (fun w Z k => sh_astore dc_Hall_release_30 (by decide) k) ?_
  refine sh_cp (fun w Z k => sh_aload dc_Hall_release_32 rfl k) ?_
  refine sh_cget (20 + s) 1 dc_Hall_release_34 (cw_ol (by omega) hk_s) rfl (by decide) fl_Hall_130 rfl rfl rfl rfl ?_
  refine sh_ccall (fun w hw => sh_virt (As := []) dc_Hall_release_37 lm_Waiters_size ln_Hall_134 wd_552 wd_12 rfl rfl (Nat.le_of_ble_eq_true rfl) (hw _ _ (cw_ot (by omega) (cw_nz hk_s (by decide)))) rfl) (ct_Waiters_size_1 (s := s) (by omega) (cw_nz hk_s (by decide))) ⟨(Nat.le_of_ble_eq_true rfl), (Nat.le_of_ble_eq_true rfl), (Nat.le_of_ble_eq_true rfl), (Nat.le_of_ble_eq_true rfl)⟩ ?_
  show sh_cW _ _ (_, _, [.int (K 19 s)]) K L _ _ _ _ _
  refine sh_cp (fun w Z k => sh_istore dc_Hall_release_40 (by decide) k) ?_
  refine sh_cp (fun w Z k => sh_aload dc_Hall_release_42 rfl k) ?_
  refine sh_cp (fun w Z k => sh_aload dc_Hall_release_44 rfl k) ?_
  refine sh_cp (fun w Z k => sh_iload_n dc_Hall_release_46 rfl rfl k) ?_
  exact sh_ccallT (fun w hw => sh_virtU (As := [.ref (A (10 + t)), .int m]) dc_Hall_release_47 lm_Lock_giveBack wd_629 wd_631 (Or.inl wd_630) ⟨by decide, by decide⟩ (by decide +kernel) wd_636 wd_635 rfl rfl (Nat.le_of_ble_eq_true rfl) (hw _ _ (cw_ol (by omega) hk_s)) rfl) (ct_Lock_giveBack_1 (t := t) (s := s) (m := m) (by omega) (by omega) hk_s c0_47) ⟨(Nat.le_of_ble_eq_true rfl), (Nat.le_of_ble_eq_true rfl), (Nat.le_of_ble_eq_true rfl), (Nat.le_of_ble_eq_true rfl)⟩ rfl
theorem ct_Hall_release_Lock_2 {A : Nat → Nat} {K : sh_II} {L : sh_DD} {t : Nat} {s : Nat} {m : Int32} {l : List Nat} {u13_47 : Nat} (ht : t < 6) (hs : s < 8) (hm : m = 0 ∨ m = 1) (hp : (K 5 t) = -1) (hr : cw_row K s l) (hk_s : cw_cl (K 12 s) = 4) (hu13_47 : u13_47 < 6) (c1_47 : (K 13 s) = nI u13_47) (c2_47 : u13_47 = t) (c3_47 : 0 < ((K 14 s) - 1)) (v4_56 : sp_svok (L 11 0) s l.length (sh_u2 K 14 s ((K 14 s) - 1)) L l) : sh_cM A md_Hall_release [.ref (A 0), .int (nI t), .int (nI s), .int m] K L (.inl (some (.int (K 19 s)))) (sp_serve (L 11 0) s l.length (sh_u2 K 14 s ((K 14 s) - 1)) L l).1 (sp_serve (L 11 0) s l.length (sh_u2 K 14 s ((K 14 s) - 1)) L l).2 := by
  refine sh_cp (fun w Z k => sh_aload_n dc_Hall_release_0 rfl rfl k) ?_
  refine sh_cp (fun w Z k => sh_iload_n dc_Hall_release_1 rfl rfl k) ?_
  refine sh_ccall (fun w hw => sh_virt (As := [.int (nI t)]) dc_Hall_release_2 lm_Hall_workerAt ln_Hall_62 wd_448 wd_3 rfl rfl (Nat.le_of_ble_eq_true rfl) (hw _ _ cw_o0) rfl) (ct_Hall_workerAt_1 (t := t) (by omega)) ⟨(Nat.le_of_ble_eq_true rfl), (Nat.le_of_ble_eq_true rfl), (Nat.le_of_ble_eq_true rfl), (Nat.le_of_ble_eq_true rfl)⟩ ?_
  show sh_cW _ _ (_, _, [.ref (A (10 + t))]) K L _ _ _ _ _
  refine sh_cp (fun w Z k => sh_astore dc_Hall_release_5 (by decide) k) ?_
  refine sh_cp (fun w Z k => sh_iload_n dc_Hall_release_7 rfl rfl k) ?_
  refine sh_cp (fun w Z k => sh_iconst (v := 0) dc_Hall_release_8 (by decide) k) ?_
  refine sh_cp (fun w Z k => sh_iconst (v := 1) dc_Hall_release_9 (by decide) k) ?_
  refine sh_ccall (fun w hw => sh_stat (As := [.int m, .int 0, .int 1]) dc_Hall_release_10 lm_Hall_checkNumber ln_Hall_39 wd_191 wd_49 rfl rfl (Nat.le_of_ble_eq_true rfl)) (ct_Hall_checkNumber_2 (x := m) (lo := 0) (hi := 1) (sp_m0 hm) (sp_m1 hm)) ⟨(Nat.le_of_ble_eq_true rfl), (Nat.le_of_ble_eq_true rfl), (Nat.le_of_ble_eq_true rfl), (Nat.le_of_ble_eq_true rfl)⟩ ?_
  show sh_cW _ _ (_, _, []) K L _ _ _ _ _
  refine sh_cp (fun w Z k => sh_aload_n dc_Hall_release_13 rfl rfl k) ?_
  refine sh_cp (fun w Z k => sh_iload_n dc_Hall_release_14 rfl rfl k) ?_
  refine sh_ccall (fun w hw => sh_virt (As := [.int (nI s)]) dc_Hall_release_15 lm_Hall_syncAt ln_Hall_73 wd_272 wd_2 rfl rfl (Nat.le_of_ble_eq_true rfl) (hw _ _ cw_o0) rfl) (ct_Hall_syncAt_2 (s := s) (by omega) (cw_nz hk_s (by decide))) ⟨(Nat.le_of_ble_eq_true rfl), (Nat.le_of_ble_eq_true rfl), (Nat.le_of_ble_eq_true rfl), (Nat.le_of_ble_eq_true rfl)⟩ ?_
  show sh_cW _ _ (_, _, [.ref (A (20 + s))]) K L _ _ _ _ _
  refine sh_cp (fun w Z k => sh_astore dc_Hall_release_18 (by decide) k) ?_
  refine sh_cp (fun w Z k => sh_aload dc_Hall_release_20 rfl k) ?_
  refine sh_ccall (fun w hw => sh_stat (As := [.ref (A (10 + t))]) dc_Hall_release_22 lm_Hall_checkRunning ln_Hall_77 wd_463 wd_49 rfl rfl (Nat.le_of_ble_eq_true rfl)) (ct_Hall_checkRunning_1 (t := t) (by omega) hp) ⟨(Nat.le_of_ble_eq_true rfl), (Nat.le_of_ble_eq_true rfl), (Nat.le_of_ble_eq_true rfl), (Nat.le_of_ble_eq_true rfl)⟩ ?_
  show sh_cW _ _ (_, _, []) K L _ _ _ _ _
  refine sh_cp (fun w Z k => sh_aload dc_Hall_release_25 rfl k) ?_
  refine sh_ccall (fun w hw => sh_stat (As := [.ref (A (20 + s))]) dc_Hall_release_27 lm_Hall_gateOf ln_Hall_81 wd_471 wd_49 rfl rfl (Nat.le_of_ble_eq_true rfl)) (ct_Hall_gateOf_Lock_1 (s := s) (by omega) hk_s) ⟨(Nat.le_of_ble_eq_true rfl), (Nat.le_of_ble_eq_true rfl), (Nat.le_of_ble_eq_true rfl), (Nat.le_of_ble_eq_true rfl)⟩ ?_
  show sh_cW _ _ (_, _, [.ref (A (20 + s))]) K L _ _ _ _ _
  refine sh_cp (fun w Z k => sh_astore dc_Hall_release_30 (by decide) k) ?_
  refine sh_cp (fun w Z k => sh_aload dc_Hall_release_32 rfl k) ?_
  refine sh_cget (20 + s) 1 dc_Hall_release_34 (cw_ol (by omega) hk_s) rfl (by decide) fl_Hall_130 rfl rfl rfl rfl ?_
  refine sh_ccall (fun w hw => sh_virt (As := []) dc_Hall_release_37 lm_Waiters_size ln_Hall_134 wd_552 wd_12 rfl rfl (Nat.le_of_ble_eq_true rfl) (hw _ _ (cw_ot (by omega) (cw_nz hk_s (by decide)))) rfl) (ct_Waiters_size_1 (s := s) (by omega) (cw_nz hk_s (by decide))) ⟨(Nat.le_of_ble_eq_true rfl), (Nat.le_of_ble_eq_true rfl), (Nat.le_of_ble_eq_true rfl), (Nat.le_of_ble_eq_true rfl)⟩ ?_
  show sh_cW _ _ (_, _, [.int (K 19 s)]) K L _ _ _ _ _
  refine sh_cp (fun w Z k => sh_istore dc_Hall_release_40 (by decide) k) ?_
  refine sh_cp (fun w Z k => sh_aload dc_Hall_release_42 rfl k) ?_
  refine sh_cp (fun w Z k => sh_aload dc_Hall_release_44 rfl k) ?_
  refine sh_cp (fun w Z k => sh_iload_n dc_Hall_release_46 rfl rfl k) ?_
  refine sh_ccall (fun w hw => sh_virtU (As := [.ref (A (10 + t)), .int m]) dc_Hall_release_47 lm_Lock_giveBack wd_629 wd_631 (Or.inl wd_630) ⟨by decide, by decide⟩ (by decide +kernel) wd_636 wd_635 rfl rfl (Nat.le_of_ble_eq_true rfl) (hw _ _ (cw_ol (by omega) hk_s)) rfl) (ct_Lock_giveBack_2 (t := t) (s := s) (m := m) (u13_2 := u13_47) (by omega) (by omega) hk_s (by omega) c1_47 c2_47 c3_47) ⟨(Nat.le_of_ble_eq_true rfl), (Nat.le_of_ble_eq_true rfl), (Nat.le_of_ble_eq_true rfl), (Nat.le_of_ble_eq_true rfl)⟩ ?_
  show sh_cW _ _ (_, _, []) (sh_u2 K 14 s ((K 14 s) - 1)) L _ _ _ _ _
  refine sh_cp (fun w Z k => sh_aload dc_Hall_release_50 rfl k) ?_
  refine sh_cp (fun w Z k => sh_aload_n dc_Hall_release_52 rfl rfl k) ?_
  refine sh_cget 0 4 dc_Hall_release_53 cw_o0 rfl (by decide) fl_Hall_35 rfl rfl rfl rfl ?_
  refine sh_ccall (fun w hw => sh_virtU (As := [.double (L 11 0)]) dc_Hall_release_56 lm_Gate_serve wd_667 wd_669 (Or.inl wd_747) ⟨by decide, by decide⟩ (by decide +kernel) wd_668 wd_671 rfl rfl (Nat.le_of_ble_eq_true rfl) (hw _ _ (cw_ol (by omega) ((congrArg cw_cl (sh_u2_row (by decide) _)).trans hk_s))) rfl) (cl_serve_Lock (s := s) (p := L 11 0) (l := l) (by omega) (cw_row_up (by decide) hr) v4_56 ((congrArg cw_cl (sh_u2_row (by decide) _)).trans hk_s)) ⟨(Nat.le_of_ble_eq_true rfl), (Nat.le_of_ble_eq_true rfl), (Nat.le_of_ble_eq_true rfl), (Nat.le_of_ble_eq_true rfl)⟩ ?_
  show sh_cW _ _ (_, _, []) (sp_serve (L 11 0) s l.length (sh_u2 K 14 s ((K 14 s) - 1)) L l).1 (sp_serve (L 11 0) s l.length (sh_u2 K 14 s ((K 14 s) - 1)) L l).2 _ _ _ _ _
  refine sh_cp (fun w Z k => sh_iload dc_Hall_release_59 rfl k) ?_
  exact sh_ce (fun w => sh_ireturn dc_Hall_release_61 rfl rfl (by decide) (by decide))
theorem ct_Hall_release_Lock_3 {A : Nat → Nat} {K : sh_II} {L : sh_DD} {t : Nat} {s : Nat} {m : Int32} {l : List Nat} {u13_47 : Nat} (ht : t < 6) (hs : s < 8) (hm : m = 0 ∨ m = 1) (hp : (K 5 t) = -1) (hr : cw_row K s l) (hk_s : cw_cl (K 12 s) = 4) (hu13_47 : u13_47 < 6) (c1_47 : (K 13 s) = nI u13_47) (c2_47 : u13_47 = t) (c3_47 : ¬ 0 < ((K 14 s) - 1)) (v4_56 : sp_svok (L 11 0) s l.length (sh_u2 (sh_u2 (sh_u2 K 14 s ((K 14 s) - 1)) 13 s (-1)) 14 s 0) L l) : sh_cM A md_Hall_release [.ref (A 0), .int (nI t), .int (nI s), .int m] K L (.inl (some (.int (K 19 s)))) (sp_serve (L 11 0) s l.length (sh_u2 (sh_u2 (sh_u2 K 14 s ((K 14 s) - 1)) 13 s (-1)) 14 s 0) L l).1 (sp_serve (L 11 0) s l.length (sh_u2 (sh_u2 (sh_u2 K 14 s ((K 14 s) - 1)) 13 s (-1)) 14 s 0) L l).2 := by
  refine sh_cp (fun w Z k => sh_aload_n dc_Hall_release_0 rfl rfl k) ?_
  refine sh_cp (fun w Z k => sh_iload_n dc_Hall_release_1 rfl rfl k) ?_
  refine sh_ccall (fun w hw => sh_virt (As := [.int (nI t)]) dc_Hall_release_2 lm_Hall_workerAt ln_Hall_62 wd_448 wd_3 rfl rfl (Nat.le_of_ble_eq_true rfl) (hw _ _ cw_o0) rfl) (ct_Hall_workerAt_1 (t := t) (by omega)) ⟨(Nat.le_of_ble_eq_true rfl), (Nat.le_of_ble_eq_true rfl), (Nat.le_of_ble_eq_true rfl), (Nat.le_of_ble_eq_true rfl)⟩ ?_
  show sh_cW _ _ (_, _, [.ref (A (10 + t))]) K L _ _ _ _ _
  refine sh_cp (fun w Z k => sh_astore dc_Hall_release_5 (by decide) k) ?_
  refine sh_cp (fun w Z k => sh_iload_n dc_Hall_release_7 rfl rfl k) ?_
  refine sh_cp (fun w Z k => sh_iconst (v := 0) dc_Hall_release_8 (by decide) k) ?_
  refine sh_cp (fun w Z k => sh_iconst (v := 1) dc_Hall_release_9 (by decide) k) ?_
  refine sh_ccall (fun w hw => sh_stat (As := [.int m, .int 0, .int 1]) dc_Hall_release_10 lm_Hall_checkNumber ln_Hall_39 wd_191 wd_49 rfl rfl (Nat.le_of_ble_eq_true rfl)) (ct_Hall_checkNumber_2 (x := m) (lo := 0) (hi := 1) (sp_m0 hm) (sp_m1 hm)) ⟨(Nat.le_of_ble_eq_true rfl), (Nat.le_of_ble_eq_true rfl), (Nat.le_of_ble_eq_true rfl), (Nat.le_of_ble_eq_true rfl)⟩ ?_
  show sh_cW _ _ (_, _, []) K L _ _ _ _ _
  refine sh_cp (fun w Z k => sh_aload_n dc_Hall_release_13 rfl rfl k) ?_
  refine sh_cp (fun w Z k => sh_iload_n dc_Hall_release_14 rfl rfl k) ?_
  refine sh_ccall (fun w hw => sh_virt (As := [.int (nI s)]) dc_Hall_release_15 lm_Hall_syncAt ln_Hall_73 wd_272 wd_2 rfl rfl (Nat.le_of_ble_eq_true rfl) (hw _ _ cw_o0) rfl) (ct_Hall_syncAt_2 (s := s) (by omega) (cw_nz hk_s (by decide))) ⟨(Nat.le_of_ble_eq_true rfl), (Nat.le_of_ble_eq_true rfl), (Nat.le_of_ble_eq_true rfl), (Nat.le_of_ble_eq_true rfl)⟩ ?_
  show sh_cW _ _ (_, _, [.ref (A (20 + s))]) K L _ _ _ _ _
  refine sh_cp (fun w Z k => sh_astore dc_Hall_release_18 (by decide) k) ?_
  refine sh_cp (fun w Z k => sh_aload dc_Hall_release_20 rfl k) ?_
  refine sh_ccall (fun w hw => sh_stat (As := [.ref (A (10 + t))]) dc_Hall_release_22 lm_Hall_checkRunning ln_Hall_77 wd_463 wd_49 rfl rfl (Nat.le_of_ble_eq_true rfl)) (ct_Hall_checkRunning_1 (t := t) (by omega) hp) ⟨(Nat.le_of_ble_eq_true rfl), (Nat.le_of_ble_eq_true rfl), (Nat.le_of_ble_eq_true rfl), (Nat.le_of_ble_eq_true rfl)⟩ ?_
  show sh_cW _ _ (_, _, []) K L _ _ _ _ _
  refine sh_cp (fun w Z k => sh_aload dc_Hall_release_25 rfl k) ?_
  refine sh_ccall (fun w hw => sh_stat (As := [.ref (A (20 + s))]) dc_Hall_release_27 lm_Hall_gateOf ln_Hall_81 wd_471 wd_49 rfl rfl (Nat.le_of_ble_eq_true rfl)) (ct_Hall_gateOf_Lock_1 (s := s) (by omega) hk_s) ⟨(Nat.le_of_ble_eq_true rfl), (Nat.le_of_ble_eq_true rfl), (Nat.le_of_ble_eq_true rfl), (Nat.le_of_ble_eq_true rfl)⟩ ?_
  show sh_cW _ _ (_, _, [.ref (A (20 + s))]) K L _ _ _ _ _
  refine sh_cp (fun w Z k => sh_astore dc_Hall_release_30 (by decide) k) ?_
  refine sh_cp (fun w Z k => sh_aload dc_Hall_release_32 rfl k) ?_
  refine sh_cget (20 + s) 1 dc_Hall_release_34 (cw_ol (by omega) hk_s) rfl (by decide) fl_Hall_130 rfl rfl rfl rfl ?_
  refine sh_ccall (fun w hw => sh_virt (As := []) dc_Hall_release_37 lm_Waiters_size ln_Hall_134 wd_552 wd_12 rfl rfl (Nat.le_of_ble_eq_true rfl) (hw _ _ (cw_ot (by omega) (cw_nz hk_s (by decide)))) rfl) (ct_Waiters_size_1 (s := s) (by omega) (cw_nz hk_s (by decide))) ⟨(Nat.le_of_ble_eq_true rfl), (Nat.le_of_ble_eq_true rfl), (Nat.le_of_ble_eq_true rfl), (Nat.le_of_ble_eq_true rfl)⟩ ?_
  show sh_cW _ _ (_, _, [.int (K 19 s)]) K L _ _ _ _ _
  refine sh_cp (fun w Z k => sh_istore dc_Hall_release_40 (by decide) k) ?_
  refine sh_cp (fun w Z k => sh_aload dc_Hall_release_42 rfl k) ?_
  refine sh_cp (fun w Z k => sh_aload dc_Hall_release_44 rfl k) ?_
  refine sh_cp (fun w Z k => sh_iload_n dc_Hall_release_46 rfl rfl k) ?_
  refine sh_ccall (fun w hw => sh_virtU (As := [.ref (A (10 + t)), .int m]) dc_Hall_release_47 lm_Lock_giveBack wd_629 wd_631 (Or.inl wd_630) ⟨by decide, by decide⟩ (by decide +kernel) wd_636 wd_635 rfl rfl (Nat.le_of_ble_eq_true rfl) (hw _ _ (cw_ol (by omega) hk_s)) rfl) (ct_Lock_giveBack_3 (t := t) (s := s) (m := m) (u13_2 := u13_47) (by omega) (by omega) hk_s (by omega) c1_47 c2_47 c3_47) ⟨(Nat.le_of_ble_eq_true rfl), (Nat.le_of_ble_eq_true rfl), (Nat.le_of_ble_eq_true rfl), (Nat.le_of_ble_eq_true rfl)⟩ ?_
  show sh_cW _ _ (_, _, []) (sh_u2 (sh_u2 (sh_u2 K 14 s ((K 14 s) - 1)) 13 s (-1)) 14 s 0) L _ _ _ _ _
  refine sh_cp (fun w Z k => sh_aload dc_Hall_release_50 rfl k) ?_
  refine sh_cp (fun w Z k => sh_aload_n dc_Hall_release_52 rfl rfl k) ?_
  refine sh_cget 0 4 dc_Hall_release_53 cw_o0 rfl (by decide) fl_Hall_35 rfl rfl rfl rfl ?_
  refine sh_ccall (fun w hw => sh_virtU (As := [.double (L 11 0)]) dc_Hall_release_56 lm_Gate_serve wd_667 wd_669 (Or.inl wd_747) ⟨by decide, by decide⟩ (by decide +kernel) wd_668 wd_671 rfl rfl (Nat.le_of_ble_eq_true rfl) (hw _ _ (cw_ol (by omega) ((congrArg cw_cl (Eq.trans (sh_u2_row (by decide) _) (Eq.trans (sh_u2_row (by decide) _) (sh_u2_row (by decide) _)))).trans hk_s))) rfl) (cl_serve_Lock (s := s) (p := L 11 0) (l := l) (by omega) (cw_row_up (by decide) (cw_row_up (by decide) (cw_row_up (by decide) hr))) v4_56 ((congrArg cw_cl (Eq.trans (sh_u2_row (by decide) _) (Eq.trans (sh_u2_row (by decide) _) (sh_u2_row (by decide) _)))).trans hk_s)) ⟨(Nat.le_of_ble_eq_true rfl), (Nat.le_of_ble_eq_true rfl), (Nat.le_of_ble_eq_true rfl), (Nat.le_of_ble_eq_true rfl)⟩ ?_
  show sh_cW _ _ (_, _, []) (sp_serve (L 11 0) s l.length (sh_u2 (sh_u2 (sh_u2 K 14 s ((K 14 s) - 1)) 13 s (-1)) 14 s 0) L l).1 (sp_serve (L 11 0) s l.length (sh_u2 (sh_u2 (sh_u2 K 14 s ((K 14 s) - 1)) 13 s (-1)) 14 s 0) L l).2 _ _ _ _ _
  refine sh_cp (fun w Z k => sh_iload dc_Hall_release_59 rfl k) ?_
  exact sh_ce (fun w => sh_ireturn dc_Hall_release_61 rfl rfl (by decide) (by decide))
theorem ct_Hall_release_Lock_4 {A : Nat → Nat} {K : sh_II} {L : sh_DD} {t : Nat} {s : Nat} {m : Int32} {l : List Nat} {u13_47 : Nat} (ht : t < 6) (hs : s < 8) (hm : m = 0 ∨ m = 1) (hp : (K 5 t) = -1) (hr : cw_row K s l) (hk_s : cw_cl (K 12 s) = 4) (hu13_47 : u13_47 < 6) (c1_47 : (K 13 s) = nI u13_47) (c2_47 : ¬ u13_47 = t) : sh_cM A md_Hall_release [.ref (A 0), .int (nI t), .int (nI s), .int m] K L (.inr 3) K L := by
  refine sh_cp (fun w Z k => sh_aload_n dc_Hall_release_0 rfl rfl k) ?_
  refine sh_cp (fun w Z k => sh_iload_n dc_Hall_release_1 rfl rfl k) ?_
  refine sh_ccall (fun w hw => sh_virt (As := [.int (nI t)]) dc_Hall_release_2 lm_Hall_workerAt ln_Hall_62 wd_448 wd_3 rfl rfl (Nat.le_of_ble_eq_true rfl) (hw _ _ cw_o0) rfl) (ct_Hall_workerAt_1 (t := t) (by omega)) ⟨(Nat.le_of_ble_eq_true rfl), (Nat.le_of_ble_eq_true rfl), (Nat.le_of_ble_eq_true rfl), (Nat.le_of_ble_eq_true rfl)⟩ ?_
  show sh_cW _ _ (_, _, [.ref (A (10 + t))]) K L _ _ _ _ _
  refine sh_cp (fun w Z k => sh_astore dc_Hall_release_5 (by decide) k) ?_
  refine sh_cp (fun w Z k => sh_iload_n dc_Hall_release_7 rfl rfl k) ?_
  refine sh_cp (fun w Z k => sh_iconst (v := 0) dc_Hall_release_8 (by decide) k) ?_
  refine sh_cp (fun w Z k => sh_iconst (v := 1) dc_Hall_release_9 (by decide) k) ?_
  refine sh_ccall (fun w hw => sh_stat (As := [.int m, .int 0, .int 1]) dc_Hall_release_10 lm_Hall_checkNumber ln_Hall_39 wd_191 wd_49 rfl rfl (Nat.le_of_ble_eq_true rfl)) (ct_Hall_checkNumber_2 (x := m) (lo := 0) (hi := 1) (sp_m0 hm) (sp_m1 hm)) ⟨(Nat.le_of_ble_eq_true rfl), (Nat.le_of_ble_eq_true rfl), (Nat.le_of_ble_eq_true rfl), (Nat.le_of_ble_eq_true rfl)⟩ ?_
  show sh_cW _ _ (_, _, []) K L _ _ _ _ _
  refine sh_cp (fun w Z k => sh_aload_n dc_Hall_release_13 rfl rfl k) ?_
  refine sh_cp (fun w Z k => sh_iload_n dc_Hall_release_14 rfl rfl k) ?_
  refine sh_ccall (fun w hw => sh_virt (As := [.int (nI s)]) dc_Hall_release_15 lm_Hall_syncAt ln_Hall_73 wd_272 wd_2 rfl rfl (Nat.le_of_ble_eq_true rfl) (hw _ _ cw_o0) rfl) (ct_Hall_syncAt_2 (s := s) (by omega) (cw_nz hk_s (by decide))) ⟨(Nat.le_of_ble_eq_true rfl), (Nat.le_of_ble_eq_true rfl), (Nat.le_of_ble_eq_true rfl), (Nat.le_of_ble_eq_true rfl)⟩ ?_
  show sh_cW _ _ (_, _, [.ref (A (20 + s))]) K L _ _ _ _ _
  refine sh_cp (fun w Z k => sh_astore dc_Hall_release_18 (by decide) k) ?_
  refine sh_cp (fun w Z k => sh_aload dc_Hall_release_20 rfl k) ?_
  refine sh_ccall (fun w hw => sh_stat (As := [.ref (A (10 + t))]) dc_Hall_release_22 lm_Hall_checkRunning ln_Hall_77 wd_463 wd_49 rfl rfl (Nat.le_of_ble_eq_true rfl)) (ct_Hall_checkRunning_1 (t := t) (by omega) hp) ⟨(Nat.le_of_ble_eq_true rfl), (Nat.le_of_ble_eq_true rfl), (Nat.le_of_ble_eq_true rfl), (Nat.le_of_ble_eq_true rfl)⟩ ?_
  show sh_cW _ _ (_, _, []) K L _ _ _ _ _
  refine sh_cp (fun w Z k => sh_aload dc_Hall_release_25 rfl k) ?_
  refine sh_ccall (fun w hw => sh_stat (As := [.ref (A (20 + s))]) dc_Hall_release_27 lm_Hall_gateOf ln_Hall_81 wd_471 wd_49 rfl rfl (Nat.le_of_ble_eq_true rfl)) (ct_Hall_gateOf_Lock_1 (s := s) (by omega) hk_s) ⟨(Nat.le_of_ble_eq_true rfl), (Nat.le_of_ble_eq_true rfl), (Nat.le_of_ble_eq_true rfl), (Nat.le_of_ble_eq_true rfl)⟩ ?_
  show sh_cW _ _ (_, _, [.ref (A (20 + s))]) K L _ _ _ _ _
  refine sh_cp (fun w Z k => sh_astore dc_Hall_release_30 (by decide) k) ?_
  refine sh_cp (fun w Z k => sh_aload dc_Hall_release_32 rfl k) ?_
  refine sh_cget (20 + s) 1 dc_Hall_release_34 (cw_ol (by omega) hk_s) rfl (by decide) fl_Hall_130 rfl rfl rfl rfl ?_
  refine sh_ccall (fun w hw => sh_virt (As := []) dc_Hall_release_37 lm_Waiters_size ln_Hall_134 wd_552 wd_12 rfl rfl (Nat.le_of_ble_eq_true rfl) (hw _ _ (cw_ot (by omega) (cw_nz hk_s (by decide)))) rfl) (ct_Waiters_size_1 (s := s) (by omega) (cw_nz hk_s (by decide))) ⟨(Nat.le_of_ble_eq_true rfl), (Nat.le_of_ble_eq_true rfl), (Nat.le_of_ble_eq_true rfl), (Nat.le_of_ble_eq_true rfl)⟩ ?_
  show sh_cW _ _ (_, _, [.int (K 19 s)]) K L _ _ _ _ _
  refine sh_cp (fun w Z k => sh_istore dc_Hall_release_40 (by decide) k) ?_
  refine sh_cp (fun w Z k => sh_aload dc_Hall_release_42 rfl k) ?_
  refine sh_cp (fun w Z k => sh_aload dc_Hall_release_44 rfl k) ?_
  refine sh_cp (fun w Z k => sh_iload_n dc_Hall_release_46 rfl rfl k) ?_
  exact sh_ccallT (fun w hw => sh_virtU (As := [.ref (A (10 + t)), .int m]) dc_Hall_release_47 lm_Lock_giveBack wd_629 wd_631 (Or.inl wd_630) ⟨by decide, by decide⟩ (by decide +kernel) wd_636 wd_635 rfl rfl (Nat.le_of_ble_eq_true rfl) (hw _ _ (cw_ol (by omega) hk_s)) rfl) (ct_Lock_giveBack_4 (t := t) (s := s) (m := m) (u13_2 := u13_47) (by omega) (by omega) hk_s (by omega) c1_47 c2_47) ⟨(Nat.le_of_ble_eq_true rfl), (Nat.le_of_ble_eq_true rfl), (Nat.le_of_ble_eq_true rfl), (Nat.le_of_ble_eq_true rfl)⟩ rfl
theorem ct_Hall_release_Semaphore_1 {A : Nat → Nat} {K : sh_II} {L : sh_DD} {t : Nat} {s : Nat} {m : Int32} {l : List Nat} (ht : t < 6) (hs : s < 8) (hm : m = 0 ∨ m = 1) (hp : (K 5 t) = -1) (hr : cw_row K s l) (hk_s : cw_cl (K 12 s) = 5) (c0_47 : (K 15 s) < 100) (v1_56 : sp_svok (L 11 0) s l.length (sh_u2 K 15 s ((K 15 s) + 1)) L l) : sh_cM A md_Hall_release [.ref (A 0), .int (nI t), .int (nI s), .int m] K L (.inl (some (.int (K 19 s)))) (sp_serve (L 11 0) s l.length (sh_u2 K 15 s ((K 15 s) + 1)) L l).1 (sp_serve (L 11 0) s l.length (sh_u2 K 15 s ((K 15 s) + 1)) L l).2 := by
  refine sh_cp (fun w Z k => sh_aload_n dc_Hall_release_0 rfl rfl k) ?_
  refine sh_cp (fun w Z k => sh_iload_n dc_Hall_release_1 rfl rfl k) ?_
  refine sh_ccall (fun w hw => sh_virt (As := [.int (nI t)]) dc_Hall_release_2 lm_Hall_workerAt ln_Hall_62 wd_448 wd_3 rfl rfl (Nat.le_of_ble_eq_true rfl) (hw _ _ cw_o0) rfl) (ct_Hall_workerAt_1 (t := t) (by omega)) ⟨(Nat.le_of_ble_eq_true rfl), (Nat.le_of_ble_eq_true rfl), (Nat.le_of_ble_eq_true rfl), (Nat.le_of_ble_eq_true rfl)⟩ ?_
  show sh_cW _ _ (_, _, [.ref (A (10 + t))]) K L _ _ _ _ _
  refine sh_cp (fun w Z k => sh_astore dc_Hall_release_5 (by decide) k) ?_
  refine sh_cp (fun w Z k => sh_iload_n dc_Hall_release_7 rfl rfl k) ?_
  refine sh_cp (fun w Z k => sh_iconst (v := 0) dc_Hall_release_8 (by decide) k) ?_
  refine sh_cp (fun w Z k => sh_iconst (v := 1) dc_Hall_release_9 (by decide) k) ?_
  refine sh_ccall (fun w hw => sh_stat (As := [.int m, .int 0, .int 1]) dc_Hall_release_10 lm_Hall_checkNumber ln_Hall_39 wd_191 wd_49 rfl rfl (Nat.le_of_ble_eq_true rfl)) (ct_Hall_checkNumber_2 (x := m) (lo := 0) (hi := 1) (sp_m0 hm) (sp_m1 hm)) ⟨(Nat.le_of_ble_eq_true rfl), (Nat.le_of_ble_eq_true rfl), (Nat.le_of_ble_eq_true rfl), (Nat.le_of_ble_eq_true rfl)⟩ ?_
  show sh_cW _ _ (_, _, []) K L _ _ _ _ _
  refine sh_cp (fun w Z k => sh_aload_n dc_Hall_release_13 rfl rfl k) ?_
  refine sh_cp (fun w Z k => sh_iload_n dc_Hall_release_14 rfl rfl k) ?_
  refine sh_ccall (fun w hw => sh_virt (As := [.int (nI s)]) dc_Hall_release_15 lm_Hall_syncAt ln_Hall_73 wd_272 wd_2 rfl rfl (Nat.le_of_ble_eq_true rfl) (hw _ _ cw_o0) rfl) (ct_Hall_syncAt_2 (s := s) (by omega) (cw_nz hk_s (by decide))) ⟨(Nat.le_of_ble_eq_true rfl), (Nat.le_of_ble_eq_true rfl), (Nat.le_of_ble_eq_true rfl), (Nat.le_of_ble_eq_true rfl)⟩ ?_
  show sh_cW _ _ (_, _, [.ref (A (20 + s))]) K L _ _ _ _ _
  refine sh_cp (fun w Z k => sh_astore dc_Hall_release_18 (by decide) k) ?_
  refine sh_cp (fun w Z k => sh_aload dc_Hall_release_20 rfl k) ?_
  refine sh_ccall (fun w hw => sh_stat (As := [.ref (A (10 + t))]) dc_Hall_release_22 lm_Hall_checkRunning ln_Hall_77 wd_463 wd_49 rfl rfl (Nat.le_of_ble_eq_true rfl)) (ct_Hall_checkRunning_1 (t := t) (by omega) hp) ⟨(Nat.le_of_ble_eq_true rfl), (Nat.le_of_ble_eq_true rfl), (Nat.le_of_ble_eq_true rfl), (Nat.le_of_ble_eq_true rfl)⟩ ?_
  show sh_cW _ _ (_, _, []) K L _ _ _ _ _
  refine sh_cp (fun w Z k => sh_aload dc_Hall_release_25 rfl k) ?_
  refine sh_ccall (fun w hw => sh_stat (As := [.ref (A (20 + s))]) dc_Hall_release_27 lm_Hall_gateOf ln_Hall_81 wd_471 wd_49 rfl rfl (Nat.le_of_ble_eq_true rfl)) (ct_Hall_gateOf_Semaphore_1 (s := s) (by omega) hk_s) ⟨(Nat.le_of_ble_eq_true rfl), (Nat.le_of_ble_eq_true rfl), (Nat.le_of_ble_eq_true rfl), (Nat.le_of_ble_eq_true rfl)⟩ ?_
  show sh_cW _ _ (_, _, [.ref (A (20 + s))]) K L _ _ _ _ _
  refine sh_cp (fun w Z k => sh_astore dc_Hall_release_30 (by decide) k) ?_
  refine sh_cp (fun w Z k => sh_aload dc_Hall_release_32 rfl k) ?_
  refine sh_cget (20 + s) 1 dc_Hall_release_34 (cw_oe (by omega) hk_s) rfl (by decide) fl_Hall_130 rfl rfl rfl rfl ?_
  refine sh_ccall (fun w hw => sh_virt (As := []) dc_Hall_release_37 lm_Waiters_size ln_Hall_134 wd_552 wd_12 rfl rfl (Nat.le_of_ble_eq_true rfl) (hw _ _ (cw_ot (by omega) (cw_nz hk_s (by decide)))) rfl) (ct_Waiters_size_1 (s := s) (by omega) (cw_nz hk_s (by decide))) ⟨(Nat.le_of_ble_eq_true rfl), (Nat.le_of_ble_eq_true rfl), (Nat.le_of_ble_eq_true rfl), (Nat.le_of_ble_eq_true rfl)⟩ ?_
  show sh_cW _ _ (_, _, [.int (K 19 s)]) K L _ _ _ _ _
  refine sh_cp (fun w Z k => sh_istore dc_Hall_release_40 (by decide) k) ?_
  refine sh_cp (fun w Z k => sh_aload dc_Hall_release_42 rfl k) ?_
  refine sh_cp (fun w Z k => sh_aload dc_Hall_release_44 rfl k) ?_
  refine sh_cp (fun w Z k => sh_iload_n dc_Hall_release_46 rfl rfl k) ?_
  refine sh_ccall (fun w hw => sh_virtU (As := [.ref (A (10 + t)), .int m]) dc_Hall_release_47 lm_Semaphore_giveBack wd_629 wd_631 (Or.inl wd_630) ⟨by decide, by decide⟩ (by decide +kernel) wd_647 wd_646 rfl rfl (Nat.le_of_ble_eq_true rfl) (hw _ _ (cw_oe (by omega) hk_s)) rfl) (ct_Semaphore_giveBack_1 (t := t) (s := s) (m := m) (by omega) (by omega) hk_s c0_47) ⟨(Nat.le_of_ble_eq_true rfl), (Nat.le_of_ble_eq_true rfl), (Nat.le_of_ble_eq_true rfl), (Nat.le_of_ble_eq_true rfl)⟩ ?_
  show sh_cW _ _ (_, _, []) (sh_u2 K 15 s ((K 15 s) + 1)) L _ _ _ _ _
  refine sh_cp (fun w Z k => sh_aload dc_Hall_release_50 rfl k) ?_
  refine sh_cp (fun w Z k => sh_aload_n dc_Hall_release_52 rfl rfl k) ?_
  refine sh_cget 0 4 dc_Hall_release_53 cw_o0 rfl (by decide) fl_Hall_35 rfl rfl rfl rfl ?_
  refine sh_ccall (fun w hw => sh_virtU (As := [.double (L 11 0)]) dc_Hall_release_56 lm_Gate_serve wd_667 wd_669 (Or.inl wd_747) ⟨by decide, by decide⟩ (by decide +kernel) wd_668 wd_672 rfl rfl (Nat.le_of_ble_eq_true rfl) (hw _ _ (cw_oe (by omega) ((congrArg cw_cl (sh_u2_row (by decide) _)).trans hk_s))) rfl) (cl_serve_Semaphore (s := s) (p := L 11 0) (l := l) (by omega) (cw_row_up (by decide) hr) v1_56 ((congrArg cw_cl (sh_u2_row (by decide) _)).trans hk_s)) ⟨(Nat.le_of_ble_eq_true rfl), (Nat.le_of_ble_eq_true rfl), (Nat.le_of_ble_eq_true rfl), (Nat.le_of_ble_eq_true rfl)⟩ ?_
  show sh_cW _ _ (_, _, []) (sp_serve (L 11 0) s l.length (sh_u2 K 15 s ((K 15 s) + 1)) L l).1 (sp_serve (L 11 0) s l.length (sh_u2 K 15 s ((K 15 s) + 1)) L l).2 _ _ _ _ _
  refine sh_cp (fun w Z k => sh_iload dc_Hall_release_59 rfl k) ?_
  exact sh_ce (fun w => sh_ireturn dc_Hall_release_61 rfl rfl (by decide) (by decide))
theorem ct_Hall_release_Semaphore_2 {A : Nat → Nat} {K : sh_II} {L : sh_DD} {t : Nat} {s : Nat} {m : Int32} {l : List Nat} (ht : t < 6) (hs : s < 8) (hm : m = 0 ∨ m = 1) (hp : (K 5 t) = -1) (hr : cw_row K s l) (hk_s : cw_cl (K 12 s) = 5) (c0_47 : ¬ (K 15 s) < 100) : sh_cM A md_Hall_release [.ref (A 0), .int (nI t), .int (nI s), .int m] K L (.inr 4) K L := by
  refine sh_cp (fun w Z k => sh_aload_n dc_Hall_release_0 rfl rfl k) ?_
  refine sh_cp (fun w Z k => sh_iload_n dc_Hall_release_1 rfl rfl k) ?_
  refine sh_ccall (fun w hw => sh_virt (As := [.int (nI t)]) dc_Hall_release_2 lm_Hall_workerAt ln_Hall_62 wd_448 wd_3 rfl rfl (Nat.le_of_ble_eq_true rfl) (hw _ _ cw_o0) rfl) (ct_Hall_workerAt_1 (t := t) (by omega)) ⟨(Nat.le_of_ble_eq_true rfl), (Nat.le_of_ble_eq_true rfl), (Nat.le_of_ble_eq_true rfl), (Nat.le_of_ble_eq_true rfl)⟩ ?_
  show sh_cW _ _ (_, _, [.ref (A (10 + t))]) K L _ _ _ _ _
  refine sh_cp (fun w Z k => sh_astore dc_Hall_release_5 (by decide) k) ?_
  refine sh_cp (fun w Z k => sh_iload_n dc_Hall_release_7 rfl rfl k) ?_
  refine sh_cp (fun w Z k => sh_iconst (v := 0) dc_Hall_release_8 (by decide) k) ?_
  refine sh_cp (fun w Z k => sh_iconst (v := 1) dc_Hall_release_9 (by decide) k) ?_
  refine sh_ccall (fun w hw => sh_stat (As := [.int m, .int 0, .int 1]) dc_Hall_release_10 lm_Hall_checkNumber ln_Hall_39 wd_191 wd_49 rfl rfl (Nat.le_of_ble_eq_true rfl)) (ct_Hall_checkNumber_2 (x := m) (lo := 0) (hi := 1) (sp_m0 hm) (sp_m1 hm)) ⟨(Nat.le_of_ble_eq_true rfl), (Nat.le_of_ble_eq_true rfl), (Nat.le_of_ble_eq_true rfl), (Nat.le_of_ble_eq_true rfl)⟩ ?_
  show sh_cW _ _ (_, _, []) K L _ _ _ _ _
  refine sh_cp (fun w Z k => sh_aload_n dc_Hall_release_13 rfl rfl k) ?_
  refine sh_cp (fun w Z k => sh_iload_n dc_Hall_release_14 rfl rfl k) ?_
  refine sh_ccall (fun w hw => sh_virt (As := [.int (nI s)]) dc_Hall_release_15 lm_Hall_syncAt ln_Hall_73 wd_272 wd_2 rfl rfl (Nat.le_of_ble_eq_true rfl) (hw _ _ cw_o0) rfl) (ct_Hall_syncAt_2 (s := s) (by omega) (cw_nz hk_s (by decide))) ⟨(Nat.le_of_ble_eq_true rfl), (Nat.le_of_ble_eq_true rfl), (Nat.le_of_ble_eq_true rfl), (Nat.le_of_ble_eq_true rfl)⟩ ?_
  show sh_cW _ _ (_, _, [.ref (A (20 + s))]) K L _ _ _ _ _
  refine sh_cp (fun w Z k => sh_astore dc_Hall_release_18 (by decide) k) ?_
  refine sh_cp (fun w Z k => sh_aload dc_Hall_release_20 rfl k) ?_
  refine sh_ccall (fun w hw => sh_stat (As := [.ref (A (10 + t))]) dc_Hall_release_22 lm_Hall_checkRunning ln_Hall_77 wd_463 wd_49 rfl rfl (Nat.le_of_ble_eq_true rfl)) (ct_Hall_checkRunning_1 (t := t) (by omega) hp) ⟨(Nat.le_of_ble_eq_true rfl), (Nat.le_of_ble_eq_true rfl), (Nat.le_of_ble_eq_true rfl), (Nat.le_of_ble_eq_true rfl)⟩ ?_
  show sh_cW _ _ (_, _, []) K L _ _ _ _ _
  refine sh_cp (fun w Z k => sh_aload dc_Hall_release_25 rfl k) ?_
  refine sh_ccall (fun w hw => sh_stat (As := [.ref (A (20 + s))]) dc_Hall_release_27 lm_Hall_gateOf ln_Hall_81 wd_471 wd_49 rfl rfl (Nat.le_of_ble_eq_true rfl)) (ct_Hall_gateOf_Semaphore_1 (s := s) (by omega) hk_s) ⟨(Nat.le_of_ble_eq_true rfl), (Nat.le_of_ble_eq_true rfl), (Nat.le_of_ble_eq_true rfl), (Nat.le_of_ble_eq_true rfl)⟩ ?_
  show sh_cW _ _ (_, _, [.ref (A (20 + s))]) K L _ _ _ _ _
  refine sh_cp (fun w Z k => sh_astore dc_Hall_release_30 (by decide) k) ?_
  refine sh_cp (fun w Z k => sh_aload dc_Hall_release_32 rfl k) ?_
  refine sh_cget (20 + s) 1 dc_Hall_release_34 (cw_oe (by omega) hk_s) rfl (by decide) fl_Hall_130 rfl rfl rfl rfl ?_
  refine sh_ccall (fun w hw => sh_virt (As := []) dc_Hall_release_37 lm_Waiters_size ln_Hall_134 wd_552 wd_12 rfl rfl (Nat.le_of_ble_eq_true rfl) (hw _ _ (cw_ot (by omega) (cw_nz hk_s (by decide)))) rfl) (ct_Waiters_size_1 (s := s) (by omega) (cw_nz hk_s (by decide))) ⟨(Nat.le_of_ble_eq_true rfl), (Nat.le_of_ble_eq_true rfl), (Nat.le_of_ble_eq_true rfl), (Nat.le_of_ble_eq_true rfl)⟩ ?_
  show sh_cW _ _ (_, _, [.int (K 19 s)]) K L _ _ _ _ _
  refine sh_cp (fun w Z k => sh_istore dc_Hall_release_40 (by decide) k) ?_
  refine sh_cp (fun w Z k => sh_aload dc_Hall_release_42 rfl k) ?_
  refine sh_cp (fun w Z k => sh_aload dc_Hall_release_44 rfl k) ?_
  refine sh_cp (fun w Z k => sh_iload_n dc_Hall_release_46 rfl rfl k) ?_
  exact sh_ccallT (fun w hw => sh_virtU (As := [.ref (A (10 + t)), .int m]) dc_Hall_release_47 lm_Semaphore_giveBack wd_629 wd_631 (Or.inl wd_630) ⟨by decide, by decide⟩ (by decide +kernel) wd_647 wd_646 rfl rfl (Nat.le_of_ble_eq_true rfl) (hw _ _ (cw_oe (by omega) hk_s)) rfl) (ct_Semaphore_giveBack_2 (t := t) (s := s) (m := m) (by omega) (by omega) hk_s c0_47) ⟨(Nat.le_of_ble_eq_true rfl), (Nat.le_of_ble_eq_true rfl), (Nat.le_of_ble_eq_true rfl), (Nat.le_of_ble_eq_true rfl)⟩ rfl
theorem ct_Hall_release_Latch_1 {A : Nat → Nat} {K : sh_II} {L : sh_DD} {t : Nat} {s : Nat} {m : Int32} {l : List Nat} (ht : t < 6) (hs : s < 8) (hm : m = 0 ∨ m = 1) (hp : (K 5 t) = -1) (hr : cw_row K s l) (hk_s : cw_cl (K 12 s) = 6) (c0_47 : (K 15 s) ≤ 0) (v1_56 : sp_svok (L 11 0) s l.length K L l) : sh_cM A md_Hall_release [.ref (A 0), .int (nI t), .int (nI s), .int m] K L (.inl (some (.int (K 19 s)))) (sp_serve (L 11 0) s l.length K L l).1 (sp_serve (L 11 0) s l.length K L l).2 := by
  refine sh_cp (fun w Z k => sh_aload_n dc_Hall_release_0 rfl rfl k) ?_
  refine sh_cp (fun w Z k => sh_iload_n dc_Hall_release_1 rfl rfl k) ?_
  refine sh_ccall (fun w hw => sh_virt (As := [.int (nI t)]) dc_Hall_release_2 lm_Hall_workerAt ln_Hall_62 wd_448 wd_3 rfl rfl (Nat.le_of_ble_eq_true rfl) (hw _ _ cw_o0) rfl) (ct_Hall_workerAt_1 (t := t) (by omega)) ⟨(Nat.le_of_ble_eq_true rfl), (Nat.le_of_ble_eq_true rfl), (Nat.le_of_ble_eq_true rfl), (Nat.le_of_ble_eq_true rfl)⟩ ?_
  show sh_cW _ _ (_, _, [.ref (A (10 + t))]) K L _ _ _ _ _
  refine sh_cp (fun w Z k => sh_astore dc_Hall_release_5 (by decide) k) ?_
  refine sh_cp (fun w Z k => sh_iload_n dc_Hall_release_7 rfl rfl k) ?_
  refine sh_cp (fun w Z k => sh_iconst (v := 0) dc_Hall_release_8 (by decide) k) ?_
  refine sh_cp (fun w Z k => sh_iconst (v := 1) dc_Hall_release_9 (by decide) k) ?_
  refine sh_ccall (fun w hw => sh_stat (As := [.int m, .int 0, .int 1]) dc_Hall_release_10 lm_Hall_checkNumber ln_Hall_39 wd_191 wd_49 rfl rfl (Nat.le_of_ble_eq_true rfl)) (ct_Hall_checkNumber_2 (x := m) (lo := 0) (hi := 1) (sp_m0 hm) (sp_m1 hm)) ⟨(Nat.le_of_ble_eq_true rfl), (Nat.le_of_ble_eq_true rfl), (Nat.le_of_ble_eq_true rfl), (Nat.le_of_ble_eq_true rfl)⟩ ?_
  show sh_cW _ _ (_, _, []) K L _ _ _ _ _
  refine sh_cp (fun w Z k => sh_aload_n dc_Hall_release_13 rfl rfl k) ?_
  refine sh_cp (fun w Z k => sh_iload_n dc_Hall_release_14 rfl rfl k) ?_
  refine sh_ccall (fun w hw => sh_virt (As := [.int (nI s)]) dc_Hall_release_15 lm_Hall_syncAt ln_Hall_73 wd_272 wd_2 rfl rfl (Nat.le_of_ble_eq_true rfl) (hw _ _ cw_o0) rfl) (ct_Hall_syncAt_2 (s := s) (by omega) (cw_nz hk_s (by decide))) ⟨(Nat.le_of_ble_eq_true rfl), (Nat.le_of_ble_eq_true rfl), (Nat.le_of_ble_eq_true rfl), (Nat.le_of_ble_eq_true rfl)⟩ ?_
  show sh_cW _ _ (_, _, [.ref (A (20 + s))]) K L _ _ _ _ _
  refine sh_cp (fun w Z k => sh_astore dc_Hall_release_18 (by decide) k) ?_
  refine sh_cp (fun w Z k => sh_aload dc_Hall_release_20 rfl k) ?_
  refine sh_ccall (fun w hw => sh_stat (As := [.ref (A (10 + t))]) dc_Hall_release_22 lm_Hall_checkRunning ln_Hall_77 wd_463 wd_49 rfl rfl (Nat.le_of_ble_eq_true rfl)) (ct_Hall_checkRunning_1 (t := t) (by omega) hp) ⟨(Nat.le_of_ble_eq_true rfl), (Nat.le_of_ble_eq_true rfl), (Nat.le_of_ble_eq_true rfl), (Nat.le_of_ble_eq_true rfl)⟩ ?_
  show sh_cW _ _ (_, _, []) K L _ _ _ _ _
  refine sh_cp (fun w Z k => sh_aload dc_Hall_release_25 rfl k) ?_
  refine sh_ccall (fun w hw => sh_stat (As := [.ref (A (20 + s))]) dc_Hall_release_27 lm_Hall_gateOf ln_Hall_81 wd_471 wd_49 rfl rfl (Nat.le_of_ble_eq_true rfl)) (ct_Hall_gateOf_Latch_1 (s := s) (by omega) hk_s) ⟨(Nat.le_of_ble_eq_true rfl), (Nat.le_of_ble_eq_true rfl), (Nat.le_of_ble_eq_true rfl), (Nat.le_of_ble_eq_true rfl)⟩ ?_
  show sh_cW _ _ (_, _, [.ref (A (20 + s))]) K L _ _ _ _ _
  refine sh_cp (fun w Z k => sh_astore dc_Hall_release_30 (by decide) k) ?_
  refine sh_cp (fun w Z k => sh_aload dc_Hall_release_32 rfl k) ?_
  refine sh_cget (20 + s) 1 dc_Hall_release_34 (cw_oa (by omega) hk_s) rfl (by decide) fl_Hall_130 rfl rfl rfl rfl ?_
  refine sh_ccall (fun w hw => sh_virt (As := []) dc_Hall_release_37 lm_Waiters_size ln_Hall_134 wd_552 wd_12 rfl rfl (Nat.le_of_ble_eq_true rfl) (hw _ _ (cw_ot (by omega) (cw_nz hk_s (by decide)))) rfl) (ct_Waiters_size_1 (s := s) (by omega) (cw_nz hk_s (by decide))) ⟨(Nat.le_of_ble_eq_true rfl), (Nat.le_of_ble_eq_true rfl), (Nat.le_of_ble_eq_true rfl), (Nat.le_of_ble_eq_true rfl)⟩ ?_
  show sh_cW _ _ (_, _, [.int (K 19 s)]) K L _ _ _ _ _
  refine sh_cp (fun w Z k => sh_istore dc_Hall_release_40 (by decide) k) ?_
  refine sh_cp (fun w Z k => sh_aload dc_Hall_release_42 rfl k) ?_
  refine sh_cp (fun w Z k => sh_aload dc_Hall_release_44 rfl k) ?_
  refine sh_cp (fun w Z k => sh_iload_n dc_Hall_release_46 rfl rfl k) ?_
  refine sh_ccall (fun w hw => sh_virtU (As := [.ref (A (10 + t)), .int m]) dc_Hall_release_47 lm_Latch_giveBack wd_629 wd_631 (Or.inl wd_630) ⟨by decide, by decide⟩ (by decide +kernel) wd_633 wd_632 rfl rfl (Nat.le_of_ble_eq_true rfl) (hw _ _ (cw_oa (by omega) hk_s)) rfl) (ct_Latch_giveBack_1 (t := t) (s := s) (m := m) (by omega) (by omega) hk_s c0_47) ⟨(Nat.le_of_ble_eq_true rfl), (Nat.le_of_ble_eq_true rfl), (Nat.le_of_ble_eq_true rfl), (Nat.le_of_ble_eq_true rfl)⟩ ?_
  show sh_cW _ _ (_, _, []) K L _ _ _ _ _
  refine sh_cp (fun w Z k => sh_aload dc_Hall_release_50 rfl k) ?_
  refine sh_cp (fun w Z k => sh_aload_n dc_Hall_release_52 rfl rfl k) ?_
  refine sh_cget 0 4 dc_Hall_release_53 cw_o0 rfl (by decide) fl_Hall_35 rfl rfl rfl rfl ?_
  refine sh_ccall (fun w hw => sh_virtU (As := [.double (L 11 0)]) dc_Hall_release_56 lm_Gate_serve wd_667 wd_669 (Or.inl wd_747) ⟨by decide, by decide⟩ (by decide +kernel) wd_668 wd_670 rfl rfl (Nat.le_of_ble_eq_true rfl) (hw _ _ (cw_oa (by omega) hk_s)) rfl) (cl_serve_Latch (s := s) (p := L 11 0) (l := l) (by omega) hr v1_56 hk_s) ⟨(Nat.le_of_ble_eq_true rfl), (Nat.le_of_ble_eq_true rfl), (Nat.le_of_ble_eq_true rfl), (Nat.le_of_ble_eq_true rfl)⟩ ?_
  show sh_cW _ _ (_, _, []) (sp_serve (L 11 0) s l.length K L l).1 (sp_serve (L 11 0) s l.length K L l).2 _ _ _ _ _
  refine sh_cp (fun w Z k => sh_iload dc_Hall_release_59 rfl k) ?_
  exact sh_ce (fun w => sh_ireturn dc_Hall_release_61 rfl rfl (by decide) (by decide))
theorem ct_Hall_release_Latch_2 {A : Nat → Nat} {K : sh_II} {L : sh_DD} {t : Nat} {s : Nat} {m : Int32} {l : List Nat} (ht : t < 6) (hs : s < 8) (hm : m = 0 ∨ m = 1) (hp : (K 5 t) = -1) (hr : cw_row K s l) (hk_s : cw_cl (K 12 s) = 6) (c0_47 : ¬ (K 15 s) ≤ 0) (v1_56 : sp_svok (L 11 0) s l.length (sh_u2 K 15 s ((K 15 s) - 1)) L l) : sh_cM A md_Hall_release [.ref (A 0), .int (nI t), .int (nI s), .int m] K L (.inl (some (.int (K 19 s)))) (sp_serve (L 11 0) s l.length (sh_u2 K 15 s ((K 15 s) - 1)) L l).1 (sp_serve (L 11 0) s l.length (sh_u2 K 15 s ((K 15 s) - 1)) L l).2 := by
  refine sh_cp (fun w Z k => sh_aload_n dc_Hall_release_0 rfl rfl k) ?_
  refine sh_cp (fun w Z k => sh_iload_n dc_Hall_release_1 rfl rfl k) ?_
  refine sh_ccall (fun w hw => sh_virt (As := [.int (nI t)]) dc_Hall_release_2 lm_Hall_workerAt ln_Hall_62 wd_448 wd_3 rfl rfl (Nat.le_of_ble_eq_true rfl) (hw _ _ cw_o0) rfl) (ct_Hall_workerAt_1 (t := t) (by omega)) ⟨(Nat.le_of_ble_eq_true rfl), (Nat.le_of_ble_eq_true rfl), (Nat.le_of_ble_eq_true rfl), (Nat.le_of_ble_eq_true rfl)⟩ ?_
  show sh_cW _ _ (_, _, [.ref (A (10 + t))]) K L _ _ _ _ _
  refine sh_cp (fun w Z k => sh_astore dc_Hall_release_5 (by decide) k) ?_
  refine sh_cp (fun w Z k => sh_iload_n dc_Hall_release_7 rfl rfl k) ?_
  refine sh_cp (fun w Z k => sh_iconst (v := 0) dc_Hall_release_8 (by decide) k) ?_
  refine sh_cp (fun w Z k => sh_iconst (v := 1) dc_Hall_release_9 (by decide) k) ?_
  refine sh_ccall (fun w hw => sh_stat (As := [.int m, .int 0, .int 1]) dc_Hall_release_10 lm_Hall_checkNumber ln_Hall_39 wd_191 wd_49 rfl rfl (Nat.le_of_ble_eq_true rfl)) (ct_Hall_checkNumber_2 (x := m) (lo := 0) (hi := 1) (sp_m0 hm) (sp_m1 hm)) ⟨(Nat.le_of_ble_eq_true rfl), (Nat.le_of_ble_eq_true rfl), (Nat.le_of_ble_eq_true rfl), (Nat.le_of_ble_eq_true rfl)⟩ ?_
  show sh_cW _ _ (_, _, []) K L _ _ _ _ _
  refine sh_cp (fun w Z k => sh_aload_n dc_Hall_release_13 rfl rfl k) ?_
  refine sh_cp (fun w Z k => sh_iload_n dc_Hall_release_14 rfl rfl k) ?_
  refine sh_ccall (fun w hw => sh_virt (As := [.int (nI s)]) dc_Hall_release_15 lm_Hall_syncAt ln_Hall_73 wd_272 wd_2 rfl rfl (Nat.le_of_ble_eq_true rfl) (hw _ _ cw_o0) rfl) (ct_Hall_syncAt_2 (s := s) (by omega) (cw_nz hk_s (by decide))) ⟨(Nat.le_of_ble_eq_true rfl), (Nat.le_of_ble_eq_true rfl), (Nat.le_of_ble_eq_true rfl), (Nat.le_of_ble_eq_true rfl)⟩ ?_
  show sh_cW _ _ (_, _, [.ref (A (20 + s))]) K L _ _ _ _ _
  refine sh_cp (fun w Z k => sh_astore dc_Hall_release_18 (by decide) k) ?_
  refine sh_cp (fun w Z k => sh_aload dc_Hall_release_20 rfl k) ?_
  refine sh_ccall (fun w hw => sh_stat (As := [.ref (A (10 + t))]) dc_Hall_release_22 lm_Hall_checkRunning ln_Hall_77 wd_463 wd_49 rfl rfl (Nat.le_of_ble_eq_true rfl)) (ct_Hall_checkRunning_1 (t := t) (by omega) hp) ⟨(Nat.le_of_ble_eq_true rfl), (Nat.le_of_ble_eq_true rfl), (Nat.le_of_ble_eq_true rfl), (Nat.le_of_ble_eq_true rfl)⟩ ?_
  show sh_cW _ _ (_, _, []) K L _ _ _ _ _
  refine sh_cp (fun w Z k => sh_aload dc_Hall_release_25 rfl k) ?_
  refine sh_ccall (fun w hw => sh_stat (As := [.ref (A (20 + s))]) dc_Hall_release_27 lm_Hall_gateOf ln_Hall_81 wd_471 wd_49 rfl rfl (Nat.le_of_ble_eq_true rfl)) (ct_Hall_gateOf_Latch_1 (s := s) (by omega) hk_s) ⟨(Nat.le_of_ble_eq_true rfl), (Nat.le_of_ble_eq_true rfl), (Nat.le_of_ble_eq_true rfl), (Nat.le_of_ble_eq_true rfl)⟩ ?_
  show sh_cW _ _ (_, _, [.ref (A (20 + s))]) K L _ _ _ _ _
  refine sh_cp (fun w Z k => sh_astore dc_Hall_release_30 (by decide) k) ?_
  refine sh_cp (fun w Z k => sh_aload dc_Hall_release_32 rfl k) ?_
  refine sh_cget (20 + s) 1 dc_Hall_release_34 (cw_oa (by omega) hk_s) rfl (by decide) fl_Hall_130 rfl rfl rfl rfl ?_
  refine sh_ccall (fun w hw => sh_virt (As := []) dc_Hall_release_37 lm_Waiters_size ln_Hall_134 wd_552 wd_12 rfl rfl (Nat.le_of_ble_eq_true rfl) (hw _ _ (cw_ot (by omega) (cw_nz hk_s (by decide)))) rfl) (ct_Waiters_size_1 (s := s) (by omega) (cw_nz hk_s (by decide))) ⟨(Nat.le_of_ble_eq_true rfl), (Nat.le_of_ble_eq_true rfl), (Nat.le_of_ble_eq_true rfl), (Nat.le_of_ble_eq_true rfl)⟩ ?_
  show sh_cW _ _ (_, _, [.int (K 19 s)]) K L _ _ _ _ _
  refine sh_cp (fun w Z k => sh_istore dc_Hall_release_40 (by decide) k) ?_
  refine sh_cp (fun w Z k => sh_aload dc_Hall_release_42 rfl k) ?_
  refine sh_cp (fun w Z k => sh_aload dc_Hall_release_44 rfl k) ?_
  refine sh_cp (fun w Z k => sh_iload_n dc_Hall_release_46 rfl rfl k) ?_
  refine sh_ccall (fun w hw => sh_virtU (As := [.ref (A (10 + t)), .int m]) dc_Hall_release_47 lm_Latch_giveBack wd_629 wd_631 (Or.inl wd_630) ⟨by decide, by decide⟩ (by decide +kernel) wd_633 wd_632 rfl rfl (Nat.le_of_ble_eq_true rfl) (hw _ _ (cw_oa (by omega) hk_s)) rfl) (ct_Latch_giveBack_2 (t := t) (s := s) (m := m) (by omega) (by omega) hk_s c0_47) ⟨(Nat.le_of_ble_eq_true rfl), (Nat.le_of_ble_eq_true rfl), (Nat.le_of_ble_eq_true rfl), (Nat.le_of_ble_eq_true rfl)⟩ ?_
  show sh_cW _ _ (_, _, []) (sh_u2 K 15 s ((K 15 s) - 1)) L _ _ _ _ _
  refine sh_cp (fun w Z k => sh_aload dc_Hall_release_50 rfl k) ?_
  refine sh_cp (fun w Z k => sh_aload_n dc_Hall_release_52 rfl rfl k) ?_
  refine sh_cget 0 4 dc_Hall_release_53 cw_o0 rfl (by decide) fl_Hall_35 rfl rfl rfl rfl ?_
  refine sh_ccall (fun w hw => sh_virtU (As := [.double (L 11 0)]) dc_Hall_release_56 lm_Gate_serve wd_667 wd_669 (Or.inl wd_747) ⟨by decide, by decide⟩ (by decide +kernel) wd_668 wd_670 rfl rfl (Nat.le_of_ble_eq_true rfl) (hw _ _ (cw_oa (by omega) ((congrArg cw_cl (sh_u2_row (by decide) _)).trans hk_s))) rfl) (cl_serve_Latch (s := s) (p := L 11 0) (l := l) (by omega) (cw_row_up (by decide) hr) v1_56 ((congrArg cw_cl (sh_u2_row (by decide) _)).trans hk_s)) ⟨(Nat.le_of_ble_eq_true rfl), (Nat.le_of_ble_eq_true rfl), (Nat.le_of_ble_eq_true rfl), (Nat.le_of_ble_eq_true rfl)⟩ ?_
  show sh_cW _ _ (_, _, []) (sp_serve (L 11 0) s l.length (sh_u2 K 15 s ((K 15 s) - 1)) L l).1 (sp_serve (L 11 0) s l.length (sh_u2 K 15 s ((K 15 s) - 1)) L l).2 _ _ _ _ _
  refine sh_cp (fun w Z k => sh_iload dc_Hall_release_59 rfl k) ?_
  exact sh_ce (fun w => sh_ireturn dc_Hall_release_61 rfl rfl (by decide) (by decide))
theorem ct_Hall_release_Shared_1 {A : Nat → Nat} {K : sh_II} {L : sh_DD} {t : Nat} {s : Nat} {m : Int32} {l : List Nat} (ht : t < 6) (hs : s < 8) (hm : m = 0 ∨ m = 1) (hp : (K 5 t) = -1) (hr : cw_row K s l) (hk_s : cw_cl (K 12 s) = 7) (c0_47 : m = 0) (c1_47 : 0 < (K 17 (6 * s + t))) (v2_56 : sp_svok (L 11 0) s l.length (sh_u2 K 17 (6 * s + t) ((K 17 (6 * s + t)) - 1)) L l) : sh_cM A md_Hall_release [.ref (A 0), .int (nI t), .int (nI s), .int m] K L (.inl (some (.int (K 19 s)))) (sp_serve (L 11 0) s l.length (sh_u2 K 17 (6 * s + t) ((K 17 (6 * s + t)) - 1)) L l).1 (sp_serve (L 11 0) s l.length (sh_u2 K 17 (6 * s + t) ((K 17 (6 * s + t)) - 1)) L l).2 := by
  refine sh_cp (fun w Z k => sh_aload_n dc_Hall_release_0 rfl rfl k) ?_
  refine sh_cp (fun w Z k => sh_iload_n dc_Hall_release_1 rfl rfl k) ?_
  refine sh_ccall (fun w hw => sh_virt (As := [.int (nI t)]) dc_Hall_release_2 lm_Hall_workerAt ln_Hall_62 wd_448 wd_3 rfl rfl (Nat.le_of_ble_eq_true rfl) (hw _ _ cw_o0) rfl) (ct_Hall_workerAt_1 (t := t) (by omega)) ⟨(Nat.le_of_ble_eq_true rfl), (Nat.le_of_ble_eq_true rfl), (Nat.le_of_ble_eq_true rfl), (Nat.le_of_ble_eq_true rfl)⟩ ?_
  show sh_cW _ _ (_, _, [.ref (A (10 + t))]) K L _ _ _ _ _
  refine sh_cp (fun w Z k => sh_astore dc_Hall_release_5 (by decide) k) ?_
  refine sh_cp (fun w Z k => sh_iload_n dc_Hall_release_7 rfl rfl k) ?_
  refine sh_cp (fun w Z k => sh_iconst (v := 0) dc_Hall_release_8 (by decide) k) ?_
  refine sh_cp (fun w Z k => sh_iconst (v := 1) dc_Hall_release_9 (by decide) k) ?_
  refine sh_ccall (fun w hw => sh_stat (As := [.int m, .int 0, .int 1]) dc_Hall_release_10 lm_Hall_checkNumber ln_Hall_39 wd_191 wd_49 rfl rfl (Nat.le_of_ble_eq_true rfl)) (ct_Hall_checkNumber_2 (x := m) (lo := 0) (hi := 1) (sp_m0 hm) (sp_m1 hm)) ⟨(Nat.le_of_ble_eq_true rfl), (Nat.le_of_ble_eq_true rfl), (Nat.le_of_ble_eq_true rfl), (Nat.le_of_ble_eq_true rfl)⟩ ?_
  show sh_cW _ _ (_, _, []) K L _ _ _ _ _
  refine sh_cp (fun w Z k => sh_aload_n dc_Hall_release_13 rfl rfl k) ?_
  refine sh_cp (fun w Z k => sh_iload_n dc_Hall_release_14 rfl rfl k) ?_
  refine sh_ccall (fun w hw => sh_virt (As := [.int (nI s)]) dc_Hall_release_15 lm_Hall_syncAt ln_Hall_73 wd_272 wd_2 rfl rfl (Nat.le_of_ble_eq_true rfl) (hw _ _ cw_o0) rfl) (ct_Hall_syncAt_2 (s := s) (by omega) (cw_nz hk_s (by decide))) ⟨(Nat.le_of_ble_eq_true rfl), (Nat.le_of_ble_eq_true rfl), (Nat.le_of_ble_eq_true rfl), (Nat.le_of_ble_eq_true rfl)⟩ ?_
  show sh_cW _ _ (_, _, [.ref (A (20 + s))]) K L _ _ _ _ _
  refine sh_cp (fun w Z k => sh_astore dc_Hall_release_18 (by decide) k) ?_
  refine sh_cp (fun w Z k => sh_aload dc_Hall_release_20 rfl k) ?_
  refine sh_ccall (fun w hw => sh_stat (As := [.ref (A (10 + t))]) dc_Hall_release_22 lm_Hall_checkRunning ln_Hall_77 wd_463 wd_49 rfl rfl (Nat.le_of_ble_eq_true rfl)) (ct_Hall_checkRunning_1 (t := t) (by omega) hp) ⟨(Nat.le_of_ble_eq_true rfl), (Nat.le_of_ble_eq_true rfl), (Nat.le_of_ble_eq_true rfl), (Nat.le_of_ble_eq_true rfl)⟩ ?_
  show sh_cW _ _ (_, _, []) K L _ _ _ _ _
  refine sh_cp (fun w Z k => sh_aload dc_Hall_release_25 rfl k) ?_
  refine sh_ccall (fun w hw => sh_stat (As := [.ref (A (20 + s))]) dc_Hall_release_27 lm_Hall_gateOf ln_Hall_81 wd_471 wd_49 rfl rfl (Nat.le_of_ble_eq_true rfl)) (ct_Hall_gateOf_Shared_1 (s := s) (by omega) hk_s) ⟨(Nat.le_of_ble_eq_true rfl), (Nat.le_of_ble_eq_true rfl), (Nat.le_of_ble_eq_true rfl), (Nat.le_of_ble_eq_true rfl)⟩ ?_
  show sh_cW _ _ (_, _, [.ref (A (20 + s))]) K L _ _ _ _ _
  refine sh_cp (fun w Z k => sh_astore dc_Hall_release_30 (by decide) k) ?_
  refine sh_cp (fun w Z k => sh_aload dc_Hall_release_32 rfl k) ?_
  refine sh_cget (20 + s) 1 dc_Hall_release_34 (cw_oh (by omega) hk_s) rfl (by decide) fl_Hall_130 rfl rfl rfl rfl ?_
  refine sh_ccall (fun w hw => sh_virt (As := []) dc_Hall_release_37 lm_Waiters_size ln_Hall_134 wd_552 wd_12 rfl rfl (Nat.le_of_ble_eq_true rfl) (hw _ _ (cw_ot (by omega) (cw_nz hk_s (by decide)))) rfl) (ct_Waiters_size_1 (s := s) (by omega) (cw_nz hk_s (by decide))) ⟨(Nat.le_of_ble_eq_true rfl), (Nat.le_of_ble_eq_true rfl), (Nat.le_of_ble_eq_true rfl), (Nat.le_of_ble_eq_true rfl)⟩ ?_
  show sh_cW _ _ (_, _, [.int (K 19 s)]) K L _ _ _ _ _
  refine sh_cp (fun w Z k => sh_istore dc_Hall_release_40 (by decide) k) ?_
  refine sh_cp (fun w Z k => sh_aload dc_Hall_release_42 rfl k) ?_
  refine sh_cp (fun w Z k => sh_aload dc_Hall_release_44 rfl k) ?_
  refine sh_cp (fun w Z k => sh_iload_n dc_Hall_release_46 rfl rfl k) ?_
  refine sh_ccall (fun w hw => sh_virtU (As := [.ref (A (10 + t)), .int m]) dc_Hall_release_47 lm_Shared_giveBack wd_629 wd_631 (Or.inl wd_630) ⟨by decide, by decide⟩ (by decide +kernel) wd_653 wd_652 rfl rfl (Nat.le_of_ble_eq_true rfl) (hw _ _ (cw_oh (by omega) hk_s)) rfl) (ct_Shared_giveBack_1 (t := t) (s := s) (m := m) (by omega) (by omega) hk_s c0_47 c1_47) ⟨(Nat.le_of_ble_eq_true rfl), (Nat.le_of_ble_eq_true rfl), (Nat.le_of_ble_eq_true rfl), (Nat.le_of_ble_eq_true rfl)⟩ ?_
  show sh_cW _ _ (_, _, []) (sh_u2 K 17 (6 * s + t) ((K 17 (6 * s + t)) - 1)) L _ _ _ _ _
  refine sh_cp (fun w Z k => sh_aload dc_Hall_release_50 rfl k) ?_
  refine sh_cp (fun w Z k => sh_aload_n dc_Hall_release_52 rfl rfl k) ?_
  refine sh_cget 0 4 dc_Hall_release_53 cw_o0 rfl (by decide) fl_Hall_35 rfl rfl rfl rfl ?_
  refine sh_ccall (fun w hw => sh_virtU (As := [.double (L 11 0)]) dc_Hall_release_56 lm_Gate_serve wd_667 wd_669 (Or.inl wd_747) ⟨by decide, by decide⟩ (by decide +kernel) wd_668 wd_673 rfl rfl (Nat.le_of_ble_eq_true rfl) (hw _ _ (cw_oh (by omega) ((congrArg cw_cl (sh_u2_row (by decide) _)).trans hk_s))) rfl) (cl_serve_Shared (s := s) (p := L 11 0) (l := l) (by omega) (cw_row_up (by decide) hr) v2_56 ((congrArg cw_cl (sh_u2_row (by decide) _)).trans hk_s)) ⟨(Nat.le_of_ble_eq_true rfl), (Nat.le_of_ble_eq_true rfl), (Nat.le_of_ble_eq_true rfl), (Nat.le_of_ble_eq_true rfl)⟩ ?_
  show sh_cW _ _ (_, _, []) (sp_serve (L 11 0) s l.length (sh_u2 K 17 (6 * s + t) ((K 17 (6 * s + t)) - 1)) L l).1 (sp_serve (L 11 0) s l.length (sh_u2 K 17 (6 * s + t) ((K 17 (6 * s + t)) - 1)) L l).2 _ _ _ _ _
  refine sh_cp (fun w Z k => sh_iload dc_Hall_release_59 rfl k) ?_
  exact sh_ce (fun w => sh_ireturn dc_Hall_release_61 rfl rfl (by decide) (by decide))
theorem ct_Hall_release_Shared_2 {A : Nat → Nat} {K : sh_II} {L : sh_DD} {t : Nat} {s : Nat} {m : Int32} {l : List Nat} (ht : t < 6) (hs : s < 8) (hm : m = 0 ∨ m = 1) (hp : (K 5 t) = -1) (hr : cw_row K s l) (hk_s : cw_cl (K 12 s) = 7) (c0_47 : m = 0) (c1_47 : ¬ 0 < (K 17 (6 * s + t))) : sh_cM A md_Hall_release [.ref (A 0), .int (nI t), .int (nI s), .int m] K L (.inr 3) K L := by
  refine sh_cp (fun w Z k => sh_aload_n dc_Hall_release_0 rfl rfl k) ?_
  refine sh_cp (fun w Z k => sh_iload_n dc_Hall_release_1 rfl rfl k) ?_
  refine sh_ccall (fun w hw => sh_virt (As := [.int (nI t)]) dc_Hall_release_2 lm_Hall_workerAt ln_Hall_62 wd_448 wd_3 rfl rfl (Nat.le_of_ble_eq_true rfl) (hw _ _ cw_o0) rfl) (ct_Hall_workerAt_1 (t := t) (by omega)) ⟨(Nat.le_of_ble_eq_true rfl), (Nat.le_of_ble_eq_true rfl), (Nat.le_of_ble_eq_true rfl), (Nat.le_of_ble_eq_true rfl)⟩ ?_
  show sh_cW _ _ (_, _, [.ref (A (10 + t))]) K L _ _ _ _ _
  refine sh_cp (fun w Z k => sh_astore dc_Hall_release_5 (by decide) k) ?_
  refine sh_cp (fun w Z k => sh_iload_n dc_Hall_release_7 rfl rfl k) ?_
  refine sh_cp (fun w Z k => sh_iconst (v := 0) dc_Hall_release_8 (by decide) k) ?_
  refine sh_cp (fun w Z k => sh_iconst (v := 1) dc_Hall_release_9 (by decide) k) ?_
  refine sh_ccall (fun w hw => sh_stat (As := [.int m, .int 0, .int 1]) dc_Hall_release_10 lm_Hall_checkNumber ln_Hall_39 wd_191 wd_49 rfl rfl (Nat.le_of_ble_eq_true rfl)) (ct_Hall_checkNumber_2 (x := m) (lo := 0) (hi := 1) (sp_m0 hm) (sp_m1 hm)) ⟨(Nat.le_of_ble_eq_true rfl), (Nat.le_of_ble_eq_true rfl), (Nat.le_of_ble_eq_true rfl), (Nat.le_of_ble_eq_true rfl)⟩ ?_
  show sh_cW _ _ (_, _, []) K L _ _ _ _ _
  refine sh_cp (fun w Z k => sh_aload_n dc_Hall_release_13 rfl rfl k) ?_
  refine sh_cp (fun w Z k => sh_iload_n dc_Hall_release_14 rfl rfl k) ?_
  refine sh_ccall (fun w hw => sh_virt (As := [.int (nI s)]) dc_Hall_release_15 lm_Hall_syncAt ln_Hall_73 wd_272 wd_2 rfl rfl (Nat.le_of_ble_eq_true rfl) (hw _ _ cw_o0) rfl) (ct_Hall_syncAt_2 (s := s) (by omega) (cw_nz hk_s (by decide))) ⟨(Nat.le_of_ble_eq_true rfl), (Nat.le_of_ble_eq_true rfl), (Nat.le_of_ble_eq_true rfl), (Nat.le_of_ble_eq_true rfl)⟩ ?_
  show sh_cW _ _ (_, _, [.ref (A (20 + s))]) K L _ _ _ _ _
  refine sh_cp (fun w Z k => sh_astore dc_Hall_release_18 (by decide) k) ?_
  refine sh_cp (fun w Z k => sh_aload dc_Hall_release_20 rfl k) ?_
  refine sh_ccall (fun w hw => sh_stat (As := [.ref (A (10 + t))]) dc_Hall_release_22 lm_Hall_checkRunning ln_Hall_77 wd_463 wd_49 rfl rfl (Nat.le_of_ble_eq_true rfl)) (ct_Hall_checkRunning_1 (t := t) (by omega) hp) ⟨(Nat.le_of_ble_eq_true rfl), (Nat.le_of_ble_eq_true rfl), (Nat.le_of_ble_eq_true rfl), (Nat.le_of_ble_eq_true rfl)⟩ ?_
  show sh_cW _ _ (_, _, []) K L _ _ _ _ _
  refine sh_cp (fun w Z k => sh_aload dc_Hall_release_25 rfl k) ?_
  refine sh_ccall (fun w hw => sh_stat (As := [.ref (A (20 + s))]) dc_Hall_release_27 lm_Hall_gateOf ln_Hall_81 wd_471 wd_49 rfl rfl (Nat.le_of_ble_eq_true rfl)) (ct_Hall_gateOf_Shared_1 (s := s) (by omega) hk_s) ⟨(Nat.le_of_ble_eq_true rfl), (Nat.le_of_ble_eq_true rfl), (Nat.le_of_ble_eq_true rfl), (Nat.le_of_ble_eq_true rfl)⟩ ?_
  show sh_cW _ _ (_, _, [.ref (A (20 + s))]) K L _ _ _ _ _
  refine sh_cp (fun w Z k => sh_astore dc_Hall_release_30 (by decide) k) ?_
  refine sh_cp (fun w Z k => sh_aload dc_Hall_release_32 rfl k) ?_
  refine sh_cget (20 + s) 1 dc_Hall_release_34 (cw_oh (by omega) hk_s) rfl (by decide) fl_Hall_130 rfl rfl rfl rfl ?_
  refine sh_ccall (fun w hw => sh_virt (As := []) dc_Hall_release_37 lm_Waiters_size ln_Hall_134 wd_552 wd_12 rfl rfl (Nat.le_of_ble_eq_true rfl) (hw _ _ (cw_ot (by omega) (cw_nz hk_s (by decide)))) rfl) (ct_Waiters_size_1 (s := s) (by omega) (cw_nz hk_s (by decide))) ⟨(Nat.le_of_ble_eq_true rfl), (Nat.le_of_ble_eq_true rfl), (Nat.le_of_ble_eq_true rfl), (Nat.le_of_ble_eq_true rfl)⟩ ?_
  show sh_cW _ _ (_, _, [.int (K 19 s)]) K L _ _ _ _ _
  refine sh_cp (fun w Z k => sh_istore dc_Hall_release_40 (by decide) k) ?_
  refine sh_cp (fun w Z k => sh_aload dc_Hall_release_42 rfl k) ?_
  refine sh_cp (fun w Z k => sh_aload dc_Hall_release_44 rfl k) ?_
  refine sh_cp (fun w Z k => sh_iload_n dc_Hall_release_46 rfl rfl k) ?_
  exact sh_ccallT (fun w hw => sh_virtU (As := [.ref (A (10 + t)), .int m]) dc_Hall_release_47 lm_Shared_giveBack wd_629 wd_631 (Or.inl wd_630) ⟨by decide, by decide⟩ (by decide +kernel) wd_653 wd_652 rfl rfl (Nat.le_of_ble_eq_true rfl) (hw _ _ (cw_oh (by omega) hk_s)) rfl) (ct_Shared_giveBack_2 (t := t) (s := s) (m := m) (by omega) (by omega) hk_s c0_47 c1_47) ⟨(Nat.le_of_ble_eq_true rfl), (Nat.le_of_ble_eq_true rfl), (Nat.le_of_ble_eq_true rfl), (Nat.le_of_ble_eq_true rfl)⟩ rfl
theorem ct_Hall_release_Shared_3 {A : Nat → Nat} {K : sh_II} {L : sh_DD} {t : Nat} {s : Nat} {m : Int32} {l : List Nat} (ht : t < 6) (hs : s < 8) (hm : m = 0 ∨ m = 1) (hp : (K 5 t) = -1) (hr : cw_row K s l) (hk_s : cw_cl (K 12 s) = 7) (c0_47 : ¬ m = 0) (c1_47 : (K 13 s) = -1) : sh_cM A md_Hall_release [.ref (A 0), .int (nI t), .int (nI s), .int m] K L (.inr 3) K L := by
  refine sh_cp (fun w Z k => sh_aload_n dc_Hall_release_0 rfl rfl k) ?_
  refine sh_cp (fun w Z k => sh_iload_n dc_Hall_release_1 rfl rfl k) ?_
  refine sh_ccall (fun w hw => sh_virt (As := [.int (nI t)]) dc_Hall_release_2 lm_Hall_workerAt ln_Hall_62 wd_448 wd_3 rfl rfl (Nat.le_of_ble_eq_true rfl) (hw _ _ cw_o0) rfl) (ct_Hall_workerAt_1 (t := t) (by omega)) ⟨(Nat.le_of_ble_eq_true rfl), (Nat.le_of_ble_eq_true rfl), (Nat.le_of_ble_eq_true rfl), (Nat.le_of_ble_eq_true rfl)⟩ ?_
  show sh_cW _ _ (_, _, [.ref (A (10 + t))]) K L _ _ _ _ _
  refine sh_cp (fun w Z k => sh_astore dc_Hall_release_5 (by decide) k) ?_
  refine sh_cp (fun w Z k => sh_iload_n dc_Hall_release_7 rfl rfl k) ?_
  refine sh_cp (fun w Z k => sh_iconst (v := 0) dc_Hall_release_8 (by decide) k) ?_
  refine sh_cp (fun w Z k => sh_iconst (v := 1) dc_Hall_release_9 (by decide) k) ?_
  refine sh_ccall (fun w hw => sh_stat (As := [.int m, .int 0, .int 1]) dc_Hall_release_10 lm_Hall_checkNumber ln_Hall_39 wd_191 wd_49 rfl rfl (Nat.le_of_ble_eq_true rfl)) (ct_Hall_checkNumber_2 (x := m) (lo := 0) (hi := 1) (sp_m0 hm) (sp_m1 hm)) ⟨(Nat.le_of_ble_eq_true rfl), (Nat.le_of_ble_eq_true rfl), (Nat.le_of_ble_eq_true rfl), (Nat.le_of_ble_eq_true rfl)⟩ ?_
  show sh_cW _ _ (_, _, []) K L _ _ _ _ _
  refine sh_cp (fun w Z k => sh_aload_n dc_Hall_release_13 rfl rfl k) ?_
  refine sh_cp (fun w Z k => sh_iload_n dc_Hall_release_14 rfl rfl k) ?_
  refine sh_ccall (fun w hw => sh_virt (As := [.int (nI s)]) dc_Hall_release_15 lm_Hall_syncAt ln_Hall_73 wd_272 wd_2 rfl rfl (Nat.le_of_ble_eq_true rfl) (hw _ _ cw_o0) rfl) (ct_Hall_syncAt_2 (s := s) (by omega) (cw_nz hk_s (by decide))) ⟨(Nat.le_of_ble_eq_true rfl), (Nat.le_of_ble_eq_true rfl), (Nat.le_of_ble_eq_true rfl), (Nat.le_of_ble_eq_true rfl)⟩ ?_
  show sh_cW _ _ (_, _, [.ref (A (20 + s))]) K L _ _ _ _ _
  refine sh_cp (fun w Z k => sh_astore dc_Hall_release_18 (by decide) k) ?_
  refine sh_cp (fun w Z k => sh_aload dc_Hall_release_20 rfl k) ?_
  refine sh_ccall (fun w hw => sh_stat (As := [.ref (A (10 + t))]) dc_Hall_release_22 lm_Hall_checkRunning ln_Hall_77 wd_463 wd_49 rfl rfl (Nat.le_of_ble_eq_true rfl)) (ct_Hall_checkRunning_1 (t := t) (by omega) hp) ⟨(Nat.le_of_ble_eq_true rfl), (Nat.le_of_ble_eq_true rfl), (Nat.le_of_ble_eq_true rfl), (Nat.le_of_ble_eq_true rfl)⟩ ?_
  show sh_cW _ _ (_, _, []) K L _ _ _ _ _
  refine sh_cp (fun w Z k => sh_aload dc_Hall_release_25 rfl k) ?_
  refine sh_ccall (fun w hw => sh_stat (As := [.ref (A (20 + s))]) dc_Hall_release_27 lm_Hall_gateOf ln_Hall_81 wd_471 wd_49 rfl rfl (Nat.le_of_ble_eq_true rfl)) (ct_Hall_gateOf_Shared_1 (s := s) (by omega) hk_s) ⟨(Nat.le_of_ble_eq_true rfl), (Nat.le_of_ble_eq_true rfl), (Nat.le_of_ble_eq_true rfl), (Nat.le_of_ble_eq_true rfl)⟩ ?_
  show sh_cW _ _ (_, _, [.ref (A (20 + s))]) K L _ _ _ _ _
  refine sh_cp (fun w Z k => sh_astore dc_Hall_release_30 (by decide) k) ?_
  refine sh_cp (fun w Z k => sh_aload dc_Hall_release_32 rfl k) ?_
  refine sh_cget (20 + s) 1 dc_Hall_release_34 (cw_oh (by omega) hk_s) rfl (by decide) fl_Hall_130 rfl rfl rfl rfl ?_
  refine sh_ccall (fun w hw => sh_virt (As := []) dc_Hall_release_37 lm_Waiters_size ln_Hall_134 wd_552 wd_12 rfl rfl (Nat.le_of_ble_eq_true rfl) (hw _ _ (cw_ot (by omega) (cw_nz hk_s (by decide)))) rfl) (ct_Waiters_size_1 (s := s) (by omega) (cw_nz hk_s (by decide))) ⟨(Nat.le_of_ble_eq_true rfl), (Nat.le_of_ble_eq_true rfl), (Nat.le_of_ble_eq_true rfl), (Nat.le_of_ble_eq_true rfl)⟩ ?_
  show sh_cW _ _ (_, _, [.int (K 19 s)]) K L _ _ _ _ _
  refine sh_cp (fun w Z k => sh_istore dc_Hall_release_40 (by decide) k) ?_
  refine sh_cp (fun w Z k => sh_aload dc_Hall_release_42 rfl k) ?_
  refine sh_cp (fun w Z k => sh_aload dc_Hall_release_44 rfl k) ?_
  refine sh_cp (fun w Z k => sh_iload_n dc_Hall_release_46 rfl rfl k) ?_
  exact sh_ccallT (fun w hw => sh_virtU (As := [.ref (A (10 + t)), .int m]) dc_Hall_release_47 lm_Shared_giveBack wd_629 wd_631 (Or.inl wd_630) ⟨by decide, by decide⟩ (by decide +kernel) wd_653 wd_652 rfl rfl (Nat.le_of_ble_eq_true rfl) (hw _ _ (cw_oh (by omega) hk_s)) rfl) (ct_Shared_giveBack_3 (t := t) (s := s) (m := m) (by omega) (by omega) hk_s c0_47 c1_47) ⟨(Nat.le_of_ble_eq_true rfl), (Nat.le_of_ble_eq_true rfl), (Nat.le_of_ble_eq_true rfl), (Nat.le_of_ble_eq_true rfl)⟩ rfl
theorem ct_Hall_release_Shared_4 {A : Nat → Nat} {K : sh_II} {L : sh_DD} {t : Nat} {s : Nat} {m : Int32} {l : List Nat} {u13_47 : Nat} (ht : t < 6) (hs : s < 8) (hm : m = 0 ∨ m = 1) (hp : (K 5 t) = -1) (hr : cw_row K s l) (hk_s : cw_cl (K 12 s) = 7) (c0_47 : ¬ m = 0) (hu13_47 : u13_47 < 6) (c2_47 : (K 13 s) = nI u13_47) (c3_47 : u13_47 = t) (c4_47 : 0 < ((K 14 s) - 1)) (v5_56 : sp_svok (L 11 0) s l.length (sh_u2 K 14 s ((K 14 s) - 1)) L l) : sh_cM A md_Hall_release [.ref (A 0), .int (nI t), .int (nI s), .int m] K L (.inl (some (.int (K 19 s)))) (sp_serve (L 11 0) s l.length (sh_u2 K 14 s ((K 14 s) - 1)) L l).1 (sp_serve (L 11 0) s l.length (sh_u2 K 14 s ((K 14 s) - 1)) L l).2 := by
  refine sh_cp (fun w Z k => sh_aload_n dc_Hall_release_0 rfl rfl k) ?_
  refine sh_cp (fun w Z k => sh_iload_n dc_Hall_release_1 rfl rfl k) ?_
  refine sh_ccall (fun w hw => sh_virt (As := [.int (nI t)]) dc_Hall_release_2 lm_Hall_workerAt ln_Hall_62 wd_448 wd_3 rfl rfl (Nat.le_of_ble_eq_true rfl) (hw _ _ cw_o0) rfl) (ct_Hall_workerAt_1 (t := t) (by omega)) ⟨(Nat.le_of_ble_eq_true rfl), (Nat.le_of_ble_eq_true rfl), (Nat.le_of_ble_eq_true rfl), (Nat.le_of_ble_eq_true rfl)⟩ ?_
  show sh_cW _ _ (_, _, [.ref (A (10 + t))]) K L _ _ _ _ _
  refine sh_cp (fun w Z k => sh_astore dc_Hall_release_5 (by decide) k) ?_
  refine sh_cp (fun w Z k => sh_iload_n dc_Hall_release_7 rfl rfl k) ?_
  refine sh_cp (fun w Z k => sh_iconst (v := 0) dc_Hall_release_8 (by decide) k) ?_
  refine sh_cp (fun w Z k => sh_iconst (v := 1) dc_Hall_release_9 (by decide) k) ?_
  refine sh_ccall (fun w hw => sh_stat (As := [.int m, .int 0, .int 1]) dc_Hall_release_10 lm_Hall_checkNumber ln_Hall_39 wd_191 wd_49 rfl rfl (Nat.le_of_ble_eq_true rfl)) (ct_Hall_checkNumber_2 (x := m) (lo := 0) (hi := 1) (sp_m0 hm) (sp_m1 hm)) ⟨(Nat.le_of_ble_eq_true rfl), (Nat.le_of_ble_eq_true rfl), (Nat.le_of_ble_eq_true rfl), (Nat.le_of_ble_eq_true rfl)⟩ ?_
  show sh_cW _ _ (_, _, []) K L _ _ _ _ _
  refine sh_cp (fun w Z k => sh_aload_n dc_Hall_release_13 rfl rfl k) ?_
  refine sh_cp (fun w Z k => sh_iload_n dc_Hall_release_14 rfl rfl k) ?_
  refine sh_ccall (fun w hw => sh_virt (As := [.int (nI s)]) dc_Hall_release_15 lm_Hall_syncAt ln_Hall_73 wd_272 wd_2 rfl rfl (Nat.le_of_ble_eq_true rfl) (hw _ _ cw_o0) rfl) (ct_Hall_syncAt_2 (s := s) (by omega) (cw_nz hk_s (by decide))) ⟨(Nat.le_of_ble_eq_true rfl), (Nat.le_of_ble_eq_true rfl), (Nat.le_of_ble_eq_true rfl), (Nat.le_of_ble_eq_true rfl)⟩ ?_
  show sh_cW _ _ (_, _, [.ref (A (20 + s))]) K L _ _ _ _ _
  refine sh_cp (fun w Z k => sh_astore dc_Hall_release_18 (by decide) k) ?_
  refine sh_cp (fun w Z k => sh_aload dc_Hall_release_20 rfl k) ?_
  refine sh_ccall (fun w hw => sh_stat (As := [.ref (A (10 + t))]) dc_Hall_release_22 lm_Hall_checkRunning ln_Hall_77 wd_463 wd_49 rfl rfl (Nat.le_of_ble_eq_true rfl)) (ct_Hall_checkRunning_1 (t := t) (by omega) hp) ⟨(Nat.le_of_ble_eq_true rfl), (Nat.le_of_ble_eq_true rfl), (Nat.le_of_ble_eq_true rfl), (Nat.le_of_ble_eq_true rfl)⟩ ?_
  show sh_cW _ _ (_, _, []) K L _ _ _ _ _
  refine sh_cp (fun w Z k => sh_aload dc_Hall_release_25 rfl k) ?_
  refine sh_ccall (fun w hw => sh_stat (As := [.ref (A (20 + s))]) dc_Hall_release_27 lm_Hall_gateOf ln_Hall_81 wd_471 wd_49 rfl rfl (Nat.le_of_ble_eq_true rfl)) (ct_Hall_gateOf_Shared_1 (s := s) (by omega) hk_s) ⟨(Nat.le_of_ble_eq_true rfl), (Nat.le_of_ble_eq_true rfl), (Nat.le_of_ble_eq_true rfl), (Nat.le_of_ble_eq_true rfl)⟩ ?_
  show sh_cW _ _ (_, _, [.ref (A (20 + s))]) K L _ _ _ _ _
  refine sh_cp (fun w Z k => sh_astore dc_Hall_release_30 (by decide) k) ?_
  refine sh_cp (fun w Z k => sh_aload dc_Hall_release_32 rfl k) ?_
  refine sh_cget (20 + s) 1 dc_Hall_release_34 (cw_oh (by omega) hk_s) rfl (by decide) fl_Hall_130 rfl rfl rfl rfl ?_
  refine sh_ccall (fun w hw => sh_virt (As := []) dc_Hall_release_37 lm_Waiters_size ln_Hall_134 wd_552 wd_12 rfl rfl (Nat.le_of_ble_eq_true rfl) (hw _ _ (cw_ot (by omega) (cw_nz hk_s (by decide)))) rfl) (ct_Waiters_size_1 (s := s) (by omega) (cw_nz hk_s (by decide))) ⟨(Nat.le_of_ble_eq_true rfl), (Nat.le_of_ble_eq_true rfl), (Nat.le_of_ble_eq_true rfl), (Nat.le_of_ble_eq_true rfl)⟩ ?_
  show sh_cW _ _ (_, _, [.int (K 19 s)]) K L _ _ _ _ _
  refine sh_cp (fun w Z k => sh_istore dc_Hall_release_40 (by decide) k) ?_
  refine sh_cp (fun w Z k => sh_aload dc_Hall_release_42 rfl k) ?_
  refine sh_cp (fun w Z k => sh_aload dc_Hall_release_44 rfl k) ?_
  refine sh_cp (fun w Z k => sh_iload_n dc_Hall_release_46 rfl rfl k) ?_
  refine sh_ccall (fun w hw => sh_virtU (As := [.ref (A (10 + t)), .int m]) dc_Hall_release_47 lm_Shared_giveBack wd_629 wd_631 (Or.inl wd_630) ⟨by decide, by decide⟩ (by decide +kernel) wd_653 wd_652 rfl rfl (Nat.le_of_ble_eq_true rfl) (hw _ _ (cw_oh (by omega) hk_s)) rfl) (ct_Shared_giveBack_4 (t := t) (s := s) (m := m) (u13_14 := u13_47) (by omega) (by omega) hk_s c0_47 (by omega) c2_47 c3_47 c4_47) ⟨(Nat.le_of_ble_eq_true rfl), (Nat.le_of_ble_eq_true rfl), (Nat.le_of_ble_eq_true rfl), (Nat.le_of_ble_eq_true rfl)⟩ ?_
  show sh_cW _ _ (_, _, []) (sh_u2 K 14 s ((K 14 s) - 1)) L _ _ _ _ _
  refine sh_cp (fun w Z k => sh_aload dc_Hall_release_50 rfl k) ?_
  refine sh_cp (fun w Z k => sh_aload_n dc_Hall_release_52 rfl rfl k) ?_
  refine sh_cget 0 4 dc_Hall_release_53 cw_o0 rfl (by decide) fl_Hall_35 rfl rfl rfl rfl ?_
  refine sh_ccall (fun w hw => sh_virtU (As := [.double (L 11 0)]) dc_Hall_release_56 lm_Gate_serve wd_667 wd_669 (Or.inl wd_747) ⟨by decide, by decide⟩ (by decide +kernel) wd_668 wd_673 rfl rfl (Nat.le_of_ble_eq_true rfl) (hw _ _ (cw_oh (by omega) ((congrArg cw_cl (sh_u2_row (by decide) _)).trans hk_s))) rfl) (cl_serve_Shared (s := s) (p := L 11 0) (l := l) (by omega) (cw_row_up (by decide) hr) v5_56 ((congrArg cw_cl (sh_u2_row (by decide) _)).trans hk_s)) ⟨(Nat.le_of_ble_eq_true rfl), (Nat.le_of_ble_eq_true rfl), (Nat.le_of_ble_eq_true rfl), (Nat.le_of_ble_eq_true rfl)⟩ ?_
  show sh_cW _ _ (_, _, []) (sp_serve (L 11 0) s l.length (sh_u2 K 14 s ((K 14 s) - 1)) L l).1 (sp_serve (L 11 0) s l.length (sh_u2 K 14 s ((K 14 s) - 1)) L l).2 _ _ _ _ _
  refine sh_cp (fun w Z k => sh_iload dc_Hall_release_59 rfl k) ?_
  exact sh_ce (fun w => sh_ireturn dc_Hall_release_61 rfl rfl (by decide) (by decide))
theorem ct_Hall_release_Shared_5 {A : Nat → Nat} {K : sh_II} {L : sh_DD} {t : Nat} {s : Nat} {m : Int32} {l : List Nat} {u13_47 : Nat} (ht : t < 6) (hs : s < 8) (hm : m = 0 ∨ m = 1) (hp : (K 5 t) = -1) (hr : cw_row K s l) (hk_s : cw_cl (K 12 s) = 7) (c0_47 : ¬ m = 0) (hu13_47 : u13_47 < 6) (c2_47 : (K 13 s) = nI u13_47) (c3_47 : u13_47 = t) (c4_47 : ¬ 0 < ((K 14 s) - 1)) (v5_56 : sp_svok (L 11 0) s l.length (sh_u2 (sh_u2 K 14 s ((K 14 s) - 1)) 13 s (-1)) L l) : sh_cM A md_Hall_release [.ref (A 0), .int (nI t), .int (nI s), .int m] K L (.inl (some (.int (K 19 s)))) (sp_serve (L 11 0) s l.length (sh_u2 (sh_u2 K 14 s ((K 14 s) - 1)) 13 s (-1)) L l).1 (sp_serve (L 11 0) s l.length (sh_u2 (sh_u2 K 14 s ((K 14 s) - 1)) 13 s (-1)) L l).2 := by
  refine sh_cp (fun w Z k => sh_aload_n dc_Hall_release_0 rfl rfl k) ?_
  refine sh_cp (fun w Z k => sh_iload_n dc_Hall_release_1 rfl rfl k) ?_
  refine sh_ccall (fun w hw => sh_virt (As := [.int (nI t)]) dc_Hall_release_2 lm_Hall_workerAt ln_Hall_62 wd_448 wd_3 rfl rfl (Nat.le_of_ble_eq_true rfl) (hw _ _ cw_o0) rfl) (ct_Hall_workerAt_1 (t := t) (by omega)) ⟨(Nat.le_of_ble_eq_true rfl), (Nat.le_of_ble_eq_true rfl), (Nat.le_of_ble_eq_true rfl), (Nat.le_of_ble_eq_true rfl)⟩ ?_
  show sh_cW _ _ (_, _, [.ref (A (10 + t))]) K L _ _ _ _ _
  refine sh_cp (fun w Z k => sh_astore dc_Hall_release_5 (by decide) k) ?_
  refine sh_cp (fun w Z k => sh_iload_n dc_Hall_release_7 rfl rfl k) ?_
  refine sh_cp (fun w Z k => sh_iconst (v := 0) dc_Hall_release_8 (by decide) k) ?_
  refine sh_cp (fun w Z k => sh_iconst (v := 1) dc_Hall_release_9 (by decide) k) ?_
  refine sh_ccall (fun w hw => sh_stat (As := [.int m, .int 0, .int 1]) dc_Hall_release_10 lm_Hall_checkNumber ln_Hall_39 wd_191 wd_49 rfl rfl (Nat.le_of_ble_eq_true rfl)) (ct_Hall_checkNumber_2 (x := m) (lo := 0) (hi := 1) (sp_m0 hm) (sp_m1 hm)) ⟨(Nat.le_of_ble_eq_true rfl), (Nat.le_of_ble_eq_true rfl), (Nat.le_of_ble_eq_true rfl), (Nat.le_of_ble_eq_true rfl)⟩ ?_
  show sh_cW _ _ (_, _, []) K L _ _ _ _ _
  refine sh_cp (fun w Z k => sh_aload_n dc_Hall_release_13 rfl rfl k) ?_
  refine sh_cp (fun w Z k => sh_iload_n dc_Hall_release_14 rfl rfl k) ?_
  refine sh_ccall (fun w hw => sh_virt (As := [.int (nI s)]) dc_Hall_release_15 lm_Hall_syncAt ln_Hall_73 wd_272 wd_2 rfl rfl (Nat.le_of_ble_eq_true rfl) (hw _ _ cw_o0) rfl) (ct_Hall_syncAt_2 (s := s) (by omega) (cw_nz hk_s (by decide))) ⟨(Nat.le_of_ble_eq_true rfl), (Nat.le_of_ble_eq_true rfl), (Nat.le_of_ble_eq_true rfl), (Nat.le_of_ble_eq_true rfl)⟩ ?_
  show sh_cW _ _ (_, _, [.ref (A (20 + s))]) K L _ _ _ _ _
  refine sh_cp (fun w Z k => sh_astore dc_Hall_release_18 (by decide) k) ?_
  refine sh_cp (fun w Z k => sh_aload dc_Hall_release_20 rfl k) ?_
  refine sh_ccall (fun w hw => sh_stat (As := [.ref (A (10 + t))]) dc_Hall_release_22 lm_Hall_checkRunning ln_Hall_77 wd_463 wd_49 rfl rfl (Nat.le_of_ble_eq_true rfl)) (ct_Hall_checkRunning_1 (t := t) (by omega) hp) ⟨(Nat.le_of_ble_eq_true rfl), (Nat.le_of_ble_eq_true rfl), (Nat.le_of_ble_eq_true rfl), (Nat.le_of_ble_eq_true rfl)⟩ ?_
  show sh_cW _ _ (_, _, []) K L _ _ _ _ _
  refine sh_cp (fun w Z k => sh_aload dc_Hall_release_25 rfl k) ?_
  refine sh_ccall (fun w hw => sh_stat (As := [.ref (A (20 + s))]) dc_Hall_release_27 lm_Hall_gateOf ln_Hall_81 wd_471 wd_49 rfl rfl (Nat.le_of_ble_eq_true rfl)) (ct_Hall_gateOf_Shared_1 (s := s) (by omega) hk_s) ⟨(Nat.le_of_ble_eq_true rfl), (Nat.le_of_ble_eq_true rfl), (Nat.le_of_ble_eq_true rfl), (Nat.le_of_ble_eq_true rfl)⟩ ?_
  show sh_cW _ _ (_, _, [.ref (A (20 + s))]) K L _ _ _ _ _
  refine sh_cp (fun w Z k => sh_astore dc_Hall_release_30 (by decide) k) ?_
  refine sh_cp (fun w Z k => sh_aload dc_Hall_release_32 rfl k) ?_
  refine sh_cget (20 + s) 1 dc_Hall_release_34 (cw_oh (by omega) hk_s) rfl (by decide) fl_Hall_130 rfl rfl rfl rfl ?_
  refine sh_ccall (fun w hw => sh_virt (As := []) dc_Hall_release_37 lm_Waiters_size ln_Hall_134 wd_552 wd_12 rfl rfl (Nat.le_of_ble_eq_true rfl) (hw _ _ (cw_ot (by omega) (cw_nz hk_s (by decide)))) rfl) (ct_Waiters_size_1 (s := s) (by omega) (cw_nz hk_s (by decide))) ⟨(Nat.le_of_ble_eq_true rfl), (Nat.le_of_ble_eq_true rfl), (Nat.le_of_ble_eq_true rfl), (Nat.le_of_ble_eq_true rfl)⟩ ?_
  show sh_cW _ _ (_, _, [.int (K 19 s)]) K L _ _ _ _ _
  refine sh_cp (fun w Z k => sh_istore dc_Hall_release_40 (by decide) k) ?_
  refine sh_cp (fun w Z k => sh_aload dc_Hall_release_42 rfl k) ?_
  refine sh_cp (fun w Z k => sh_aload dc_Hall_release_44 rfl k) ?_
  refine sh_cp (fun w Z k => sh_iload_n dc_Hall_release_46 rfl rfl k) ?_
  refine sh_ccall (fun w hw => sh_virtU (As := [.ref (A (10 + t)), .int m]) dc_Hall_release_47 lm_Shared_giveBack wd_629 wd_631 (Or.inl wd_630) ⟨by decide, by decide⟩ (by decide +kernel) wd_653 wd_652 rfl rfl (Nat.le_of_ble_eq_true rfl) (hw _ _ (cw_oh (by omega) hk_s)) rfl) (ct_Shared_giveBack_5 (t := t) (s := s) (m := m) (u13_14 := u13_47) (by omega) (by omega) hk_s c0_47 (by omega) c2_47 c3_47 c4_47) ⟨(Nat.le_of_ble_eq_true rfl), (Nat.le_of_ble_eq_true rfl), (Nat.le_of_ble_eq_true rfl), (Nat.le_of_ble_eq_true rfl)⟩ ?_
  show sh_cW _ _ (_, _, []) (sh_u2 (sh_u2 K 14 s ((K 14 s) - 1)) 13 s (-1)) L _ _ _ _ _
  refine sh_cp (fun w Z k => sh_aload dc_Hall_release_50 rfl k) ?_
  refine sh_cp (fun w Z k => sh_aload_n dc_Hall_release_52 rfl rfl k) ?_
  refine sh_cget 0 4 dc_Hall_release_53 cw_o0 rfl (by decide) fl_Hall_35 rfl rfl rfl rfl ?_
  refine sh_ccall (fun w hw => sh_virtU (As := [.double (L 11 0)]) dc_Hall_release_56 lm_Gate_serve wd_667 wd_669 (Or.inl wd_747) ⟨by decide, by decide⟩ (by decide +kernel) wd_668 wd_673 rfl rfl (Nat.le_of_ble_eq_true rfl) (hw _ _ (cw_oh (by omega) ((congrArg cw_cl (Eq.trans (sh_u2_row (by decide) _) (sh_u2_row (by decide) _))).trans hk_s))) rfl) (cl_serve_Shared (s := s) (p := L 11 0) (l := l) (by omega) (cw_row_up (by decide) (cw_row_up (by decide) hr)) v5_56 ((congrArg cw_cl (Eq.trans (sh_u2_row (by decide) _) (sh_u2_row (by decide) _))).trans hk_s)) ⟨(Nat.le_of_ble_eq_true rfl), (Nat.le_of_ble_eq_true rfl), (Nat.le_of_ble_eq_true rfl), (Nat.le_of_ble_eq_true rfl)⟩ ?_
  show sh_cW _ _ (_, _, []) (sp_serve (L 11 0) s l.length (sh_u2 (sh_u2 K 14 s ((K 14 s) - 1)) 13 s (-1)) L l).1 (sp_serve (L 11 0) s l.length (sh_u2 (sh_u2 K 14 s ((K 14 s) - 1)) 13 s (-1)) L l).2 _ _ _ _ _
  refine sh_cp (fun w Z k => sh_iload dc_Hall_release_59 rfl k) ?_
  exact sh_ce (fun w => sh_ireturn dc_Hall_release_61 rfl rfl (by decide) (by decide))
theorem ct_Hall_release_Shared_6 {A : Nat → Nat} {K : sh_II} {L : sh_DD} {t : Nat} {s : Nat} {m : Int32} {l : List Nat} {u13_47 : Nat} (ht : t < 6) (hs : s < 8) (hm : m = 0 ∨ m = 1) (hp : (K 5 t) = -1) (hr : cw_row K s l) (hk_s : cw_cl (K 12 s) = 7) (c0_47 : ¬ m = 0) (hu13_47 : u13_47 < 6) (c2_47 : (K 13 s) = nI u13_47) (c3_47 : ¬ u13_47 = t) : sh_cM A md_Hall_release [.ref (A 0), .int (nI t), .int (nI s), .int m] K L (.inr 3) K L := by
  refine sh_cp (fun w Z k => sh_aload_n dc_Hall_release_0 rfl rfl k) ?_
  refine sh_cp (fun w Z k => sh_iload_n dc_Hall_release_1 rfl rfl k) ?_
  refine sh_ccall (fun w hw => sh_virt (As := [.int (nI t)]) dc_Hall_release_2 lm_Hall_workerAt ln_Hall_62 wd_448 wd_3 rfl rfl (Nat.le_of_ble_eq_true rfl) (hw _ _ cw_o0) rfl) (ct_Hall_workerAt_1 (t := t) (by omega)) ⟨(Nat.le_of_ble_eq_true rfl), (Nat.le_of_ble_eq_true rfl), (Nat.le_of_ble_eq_true rfl), (Nat.le_of_ble_eq_true rfl)⟩ ?_
  show sh_cW _ _ (_, _, [.ref (A (10 + t))]) K L _ _ _ _ _
  refine sh_cp (fun w Z k => sh_astore dc_Hall_release_5 (by decide) k) ?_
  refine sh_cp (fun w Z k => sh_iload_n dc_Hall_release_7 rfl rfl k) ?_
  refine sh_cp (fun w Z k => sh_iconst (v := 0) dc_Hall_release_8 (by decide) k) ?_
  refine sh_cp (fun w Z k => sh_iconst (v := 1) dc_Hall_release_9 (by decide) k) ?_
  refine sh_ccall (fun w hw => sh_stat (As := [.int m, .int 0, .int 1]) dc_Hall_release_10 lm_Hall_checkNumber ln_Hall_39 wd_191 wd_49 rfl rfl (Nat.le_of_ble_eq_true rfl)) (ct_Hall_checkNumber_2 (x := m) (lo := 0) (hi := 1) (sp_m0 hm) (sp_m1 hm)) ⟨(Nat.le_of_ble_eq_true rfl), (Nat.le_of_ble_eq_true rfl), (Nat.le_of_ble_eq_true rfl), (Nat.le_of_ble_eq_true rfl)⟩ ?_
  show sh_cW _ _ (_, _, []) K L _ _ _ _ _
  refine sh_cp (fun w Z k => sh_aload_n dc_Hall_release_13 rfl rfl k) ?_
  refine sh_cp (fun w Z k => sh_iload_n dc_Hall_release_14 rfl rfl k) ?_
  refine sh_ccall (fun w hw => sh_virt (As := [.int (nI s)]) dc_Hall_release_15 lm_Hall_syncAt ln_Hall_73 wd_272 wd_2 rfl rfl (Nat.le_of_ble_eq_true rfl) (hw _ _ cw_o0) rfl) (ct_Hall_syncAt_2 (s := s) (by omega) (cw_nz hk_s (by decide))) ⟨(Nat.le_of_ble_eq_true rfl), (Nat.le_of_ble_eq_true rfl), (Nat.le_of_ble_eq_true rfl), (Nat.le_of_ble_eq_true rfl)⟩ ?_
  show sh_cW _ _ (_, _, [.ref (A (20 + s))]) K L _ _ _ _ _
  refine sh_cp (fun w Z k => sh_astore dc_Hall_release_18 (by decide) k) ?_
  refine sh_cp (fun w Z k => sh_aload dc_Hall_release_20 rfl k) ?_
  refine sh_ccall (fun w hw => sh_stat (As := [.ref (A (10 + t))]) dc_Hall_release_22 lm_Hall_checkRunning ln_Hall_77 wd_463 wd_49 rfl rfl (Nat.le_of_ble_eq_true rfl)) (ct_Hall_checkRunning_1 (t := t) (by omega) hp) ⟨(Nat.le_of_ble_eq_true rfl), (Nat.le_of_ble_eq_true rfl), (Nat.le_of_ble_eq_true rfl), (Nat.le_of_ble_eq_true rfl)⟩ ?_
  show sh_cW _ _ (_, _, []) K L _ _ _ _ _
  refine sh_cp (fun w Z k => sh_aload dc_Hall_release_25 rfl k) ?_
  refine sh_ccall (fun w hw => sh_stat (As := [.ref (A (20 + s))]) dc_Hall_release_27 lm_Hall_gateOf ln_Hall_81 wd_471 wd_49 rfl rfl (Nat.le_of_ble_eq_true rfl)) (ct_Hall_gateOf_Shared_1 (s := s) (by omega) hk_s) ⟨(Nat.le_of_ble_eq_true rfl), (Nat.le_of_ble_eq_true rfl), (Nat.le_of_ble_eq_true rfl), (Nat.le_of_ble_eq_true rfl)⟩ ?_
  show sh_cW _ _ (_, _, [.ref (A (20 + s))]) K L _ _ _ _ _
  refine sh_cp (fun w Z k => sh_astore dc_Hall_release_30 (by decide) k) ?_
  refine sh_cp (fun w Z k => sh_aload dc_Hall_release_32 rfl k) ?_
  refine sh_cget (20 + s) 1 dc_Hall_release_34 (cw_oh (by omega) hk_s) rfl (by decide) fl_Hall_130 rfl rfl rfl rfl ?_
  refine sh_ccall (fun w hw => sh_virt (As := []) dc_Hall_release_37 lm_Waiters_size ln_Hall_134 wd_552 wd_12 rfl rfl (Nat.le_of_ble_eq_true rfl) (hw _ _ (cw_ot (by omega) (cw_nz hk_s (by decide)))) rfl) (ct_Waiters_size_1 (s := s) (by omega) (cw_nz hk_s (by decide))) ⟨(Nat.le_of_ble_eq_true rfl), (Nat.le_of_ble_eq_true rfl), (Nat.le_of_ble_eq_true rfl), (Nat.le_of_ble_eq_true rfl)⟩ ?_
  show sh_cW _ _ (_, _, [.int (K 19 s)]) K L _ _ _ _ _
  refine sh_cp (fun w Z k => sh_istore dc_Hall_release_40 (by decide) k) ?_
  refine sh_cp (fun w Z k => sh_aload dc_Hall_release_42 rfl k) ?_
  refine sh_cp (fun w Z k => sh_aload dc_Hall_release_44 rfl k) ?_
  refine sh_cp (fun w Z k => sh_iload_n dc_Hall_release_46 rfl rfl k) ?_
  exact sh_ccallT (fun w hw => sh_virtU (As := [.ref (A (10 + t)), .int m]) dc_Hall_release_47 lm_Shared_giveBack wd_629 wd_631 (Or.inl wd_630) ⟨by decide, by decide⟩ (by decide +kernel) wd_653 wd_652 rfl rfl (Nat.le_of_ble_eq_true rfl) (hw _ _ (cw_oh (by omega) hk_s)) rfl) (ct_Shared_giveBack_6 (t := t) (s := s) (m := m) (u13_14 := u13_47) (by omega) (by omega) hk_s c0_47 (by omega) c2_47 c3_47) ⟨(Nat.le_of_ble_eq_true rfl), (Nat.le_of_ble_eq_true rfl), (Nat.le_of_ble_eq_true rfl), (Nat.le_of_ble_eq_true rfl)⟩ rfl
theorem ct_Hall_await_x_1 {A : Nat → Nat} {K : sh_II} {L : sh_DD} {x : Int32} {o : Int32} {y : UInt64} (c0_2 : x < 0) : sh_cM A md_Hall_await [.ref (A 0), .int x, .int o, .double y] K L (.inr 1) K L := by
  refine sh_cp (fun w Z k => sh_aload_n dc_Hall_await_0 rfl rfl k) ?_
  refine sh_cp (fun w Z k => sh_iload_n dc_Hall_await_1 rfl rfl k) ?_
  exact sh_ccallT (fun w hw => sh_virt (As := [.int x]) dc_Hall_await_2 lm_Hall_workerAt ln_Hall_62 wd_448 wd_3 rfl rfl (Nat.le_of_ble_eq_true rfl) (hw _ _ cw_o0) rfl) (ct_Hall_workerAt_x_1 (x := x) c0_2) ⟨(Nat.le_of_ble_eq_true rfl), (Nat.le_of_ble_eq_true rfl), (Nat.le_of_ble_eq_true rfl), (Nat.le_of_ble_eq_true rfl)⟩ rfl
theorem ct_Hall_await_x_2 {A : Nat → Nat} {K : sh_II} {L : sh_DD} {x : Int32} {o : Int32} {y : UInt64} (c0_2 : ¬ x < 0) (c1_2 : ¬ x ≤ 5) : sh_cM A md_Hall_await [.ref (A 0), .int x, .int o, .double y] K L (.inr 1) K L := by
  refine sh_cp (fun w Z k => sh_aload_n dc_Hall_await_0 rfl rfl k) ?_
  refine sh_cp (fun w Z k => sh_iload_n dc_Hall_await_1 rfl rfl k) ?_
  exact sh_ccallT (fun w hw => sh_virt (As := [.int x]) dc_Hall_await_2 lm_Hall_workerAt ln_Hall_62 wd_448 wd_3 rfl rfl (Nat.le_of_ble_eq_true rfl) (hw _ _ cw_o0) rfl) (ct_Hall_workerAt_x_2 (x := x) c0_2 c1_2) ⟨(Nat.le_of_ble_eq_true rfl), (Nat.le_of_ble_eq_true rfl), (Nat.le_of_ble_eq_true rfl), (Nat.le_of_ble_eq_true rfl)⟩ rfl
theorem ct_Hall_await_t_1 {A : Nat → Nat} {K : sh_II} {L : sh_DD} {t : Nat} {x : Int32} {y : UInt64} (ht : t < 6) (c0_12 : (Op.cmpValue (FP.dcmp y (FP.i2d (-1))) .l) < 0) : sh_cM A md_Hall_await [.ref (A 0), .int (nI t), .int x, .double y] K L (.inr 1) K L := by
  refine sh_cp (fun w Z k => sh_aload_n dc_Hall_await_0 rfl rfl k) ?_
  refine sh_cp (fun w Z k => sh_iload_n dc_Hall_await_1 rfl rfl k) ?_
  refine sh_ccall (fun w hw => sh_virt (As := [.int (nI t)]) dc_Hall_await_2 lm_Hall_workerAt ln_Hall_62 wd_448 wd_3 rfl rfl (Nat.le_of_ble_eq_true rfl) (hw _ _ cw_o0) rfl) (ct_Hall_workerAt_1 (t := t) (by omega)) ⟨(Nat.le_of_ble_eq_true rfl), (Nat.le_of_ble_eq_true rfl), (Nat.le_of_ble_eq_true rfl), (Nat.le_of_ble_eq_true rfl)⟩ ?_
  show sh_cW _ _ (_, _, [.ref (A (10 + t))]) K L _ _ _ _ _
  refine sh_cp (fun w Z k => sh_astore dc_Hall_await_5 (by decide) k) ?_
  refine sh_cp (fun w Z k => sh_dload_n dc_Hall_await_7 rfl rfl k) ?_
  refine sh_cp (fun w Z k => sh_iconst (v := (-1)) dc_Hall_await_8 (by decide) k) ?_
  refine sh_cp (fun w Z k => sh_sipush (v := 1000) dc_Hall_await_9 (by decide) k) ?_
  exact sh_ccallT (fun w hw => sh_stat (As := [.double y, .int (-1), .int 1000]) dc_Hall_await_12 lm_Hall_checkAmount ln_Hall_66 wd_451 wd_49 rfl rfl (Nat.le_of_ble_eq_true rfl)) (ct_Hall_checkAmount_1 (x := y) (lo := (-1)) (hi := 1000) c0_12) ⟨(Nat.le_of_ble_eq_true rfl), (Nat.le_of_ble_eq_true rfl), (Nat.le_of_ble_eq_true rfl), (Nat.le_of_ble_eq_true rfl)⟩ rfl
theorem ct_Hall_await_t_2 {A : Nat → Nat} {K : sh_II} {L : sh_DD} {t : Nat} {x : Int32} {y : UInt64} (ht : t < 6) (c0_12 : ¬ (Op.cmpValue (FP.dcmp y (FP.i2d (-1))) .l) < 0) (c1_12 : (Op.cmpValue (FP.dcmp y (FP.i2d 1000)) .g) ≤ 0) (c2_19 : x < 0) : sh_cM A md_Hall_await [.ref (A 0), .int (nI t), .int x, .double y] K L (.inr 1) K L := by
  refine sh_cp (fun w Z k => sh_aload_n dc_Hall_await_0 rfl rfl k) ?_
  refine sh_cp (fun w Z k => sh_iload_n dc_Hall_await_1 rfl rfl k) ?_
  refine sh_ccall (fun w hw => sh_virt (As := [.int (nI t)]) dc_Hall_await_2 lm_Hall_workerAt ln_Hall_62 wd_448 wd_3 rfl rfl (Nat.le_of_ble_eq_true rfl) (hw _ _ cw_o0) rfl) (ct_Hall_workerAt_1 (t := t) (by omega)) ⟨(Nat.le_of_ble_eq_true rfl), (Nat.le_of_ble_eq_true rfl), (Nat.le_of_ble_eq_true rfl), (Nat.le_of_ble_eq_true rfl)⟩ ?_
  show sh_cW _ _ (_, _, [.ref (A (10 + t))]) K L _ _ _ _ _
  refine sh_cp (fun w Z k => sh_astore dc_Hall_await_5 (by decide) k) ?_
  refine sh_cp (fun w Z k => sh_dload_n dc_Hall_await_7 rfl rfl k) ?_
  refine sh_cp (fun w Z k => sh_iconst (v := (-1)) dc_Hall_await_8 (by decide) k) ?_
  refine sh_cp (fun w Z k => sh_sipush (v := 1000) dc_Hall_await_9 (by decide) k) ?_
  refine sh_ccall (fun w hw => sh_stat (As := [.double y, .int (-1), .int 1000]) dc_Hall_await_12 lm_Hall_checkAmount ln_Hall_66 wd_451 wd_49 rfl rfl (Nat.le_of_ble_eq_true rfl)) (ct_Hall_checkAmount_2 (x := y) (lo := (-1)) (hi := 1000) c0_12 c1_12) ⟨(Nat.le_of_ble_eq_true rfl), (Nat.le_of_ble_eq_true rfl), (Nat.le_of_ble_eq_true rfl), (Nat.le_of_ble_eq_true rfl)⟩ ?_
  show sh_cW _ _ (_, _, []) K L _ _ _ _ _
  refine sh_cp (fun w Z k => sh_aload_n dc_Hall_await_15 rfl rfl k) ?_
  refine sh_cp (fun w Z k => sh_aload dc_Hall_await_16 rfl k) ?_
  refine sh_cp (fun w Z k => sh_iload_n dc_Hall_await_18 rfl rfl k) ?_
  exact sh_ccallT (fun w hw => sh_virt (As := [.ref (A (10 + t)), .int x]) dc_Hall_await_19 lm_Hall_conditionFor ln_Hall_147 wd_733 wd_24 rfl rfl (Nat.le_of_ble_eq_true rfl) (hw _ _ cw_o0) rfl) (ct_Hall_conditionFor_x_1 (t := t) (x := x) (by omega) c2_19) ⟨(Nat.le_of_ble_eq_true rfl), (Nat.le_of_ble_eq_true rfl), (Nat.le_of_ble_eq_true rfl), (Nat.le_of_ble_eq_true rfl)⟩ rfl
theorem ct_Hall_await_t_3 {A : Nat → Nat} {K : sh_II} {L : sh_DD} {t : Nat} {x : Int32} {y : UInt64} (ht : t < 6) (c0_12 : ¬ (Op.cmpValue (FP.dcmp y (FP.i2d (-1))) .l) < 0) (c1_12 : (Op.cmpValue (FP.dcmp y (FP.i2d 1000)) .g) ≤ 0) (c2_19 : ¬ x < 0) (c3_19 : ¬ x ≤ 7) : sh_cM A md_Hall_await [.ref (A 0), .int (nI t), .int x, .double y] K L (.inr 1) K L := by
  refine sh_cp (fun w Z k => sh_aload_n dc_Hall_await_0 rfl rfl k) ?_
  refine sh_cp (fun w Z k => sh_iload_n dc_Hall_await_1 rfl rfl k) ?_
  refine sh_ccall (fun w hw => sh_virt (As := [.int (nI t)]) dc_Hall_await_2 lm_Hall_workerAt ln_Hall_62 wd_448 wd_3 rfl rfl (Nat.le_of_ble_eq_true rfl) (hw _ _ cw_o0) rfl) (ct_Hall_workerAt_1 (t := t) (by omega)) ⟨(Nat.le_of_ble_eq_true rfl), (Nat.le_of_ble_eq_true rfl), (Nat.le_of_ble_eq_true rfl), (Nat.le_of_ble_eq_true rfl)⟩ ?_
  show sh_cW _ _ (_, _, [.ref (A (10 + t))]) K L _ _ _ _ _
  refine sh_cp (fun w Z k => sh_astore dc_Hall_await_5 (by decide) k) ?_
  refine sh_cp (fun w Z k => sh_dload_n dc_Hall_await_7 rfl rfl k) ?_
  refine sh_cp (fun w Z k => sh_iconst (v := (-1)) dc_Hall_await_8 (by decide) k) ?_
  refine sh_cp (fun w Z k => sh_sipush (v := 1000) dc_Hall_await_9 (by decide) k) ?_
  refine sh_ccall (fun w hw => sh_stat (As := [.double y, .int (-1), .int 1000]) dc_Hall_await_12 lm_Hall_checkAmount ln_Hall_66 wd_451 wd_49 rfl rfl (Nat.le_of_ble_eq_true rfl)) (ct_Hall_checkAmount_2 (x := y) (lo := (-1)) (hi := 1000) c0_12 c1_12) ⟨(Nat.le_of_ble_eq_true rfl), (Nat.le_of_ble_eq_true rfl), (Nat.le_of_ble_eq_true rfl), (Nat.le_of_ble_eq_true rfl)⟩ ?_
  show sh_cW _ _ (_, _, []) K L _ _ _ _ _
  refine sh_cp (fun w Z k => sh_aload_n dc_Hall_await_15 rfl rfl k) ?_
  refine sh_cp (fun w Z k => sh_aload dc_Hall_await_16 rfl k) ?_
  refine sh_cp (fun w Z k => sh_iload_n dc_Hall_await_18 rfl rfl k) ?_
  exact sh_ccallT (fun w hw => sh_virt (As := [.ref (A (10 + t)), .int x]) dc_Hall_await_19 lm_Hall_conditionFor ln_Hall_147 wd_733 wd_24 rfl rfl (Nat.le_of_ble_eq_true rfl) (hw _ _ cw_o0) rfl) (ct_Hall_conditionFor_x_2 (t := t) (x := x) (by omega) c2_19 c3_19) ⟨(Nat.le_of_ble_eq_true rfl), (Nat.le_of_ble_eq_true rfl), (Nat.le_of_ble_eq_true rfl), (Nat.le_of_ble_eq_true rfl)⟩ rfl
theorem ct_Hall_await_t_4 {A : Nat → Nat} {K : sh_II} {L : sh_DD} {t : Nat} {x : Int32} {y : UInt64} (ht : t < 6) (c0_12 : ¬ (Op.cmpValue (FP.dcmp y (FP.i2d (-1))) .l) < 0) (c1_12 : ¬ (Op.cmpValue (FP.dcmp y (FP.i2d 1000)) .g) ≤ 0) : sh_cM A md_Hall_await [.ref (A 0), .int (nI t), .int x, .double y] K L (.inr 1) K L := by
  refine sh_cp (fun w Z k => sh_aload_n dc_Hall_await_0 rfl rfl k) ?_
  refine sh_cp (fun w Z k => sh_iload_n dc_Hall_await_1 rfl rfl k) ?_
  refine sh_ccall (fun w hw => sh_virt (As := [.int (nI t)]) dc_Hall_await_2 lm_Hall_workerAt ln_Hall_62 wd_448 wd_3 rfl rfl (Nat.le_of_ble_eq_true rfl) (hw _ _ cw_o0) rfl) (ct_Hall_workerAt_1 (t := t) (by omega)) ⟨(Nat.le_of_ble_eq_true rfl), (Nat.le_of_ble_eq_true rfl), (Nat.le_of_ble_eq_true rfl), (Nat.le_of_ble_eq_true rfl)⟩ ?_
  show sh_cW _ _ (_, _, [.ref (A (10 + t))]) K L _ _ _ _ _
  refine sh_cp (fun w Z k => sh_astore dc_Hall_await_5 (by decide) k) ?_
  refine sh_cp (fun w Z k => sh_dload_n dc_Hall_await_7 rfl rfl k) ?_
  refine sh_cp (fun w Z k => sh_iconst (v := (-1)) dc_Hall_await_8 (by decide) k) ?_
  refine sh_cp (fun w Z k => sh_sipush (v := 1000) dc_Hall_await_9 (by decide) k) ?_
  exact sh_ccallT (fun w hw => sh_stat (As := [.double y, .int (-1), .int 1000]) dc_Hall_await_12 lm_Hall_checkAmount ln_Hall_66 wd_451 wd_49 rfl rfl (Nat.le_of_ble_eq_true rfl)) (ct_Hall_checkAmount_3 (x := y) (lo := (-1)) (hi := 1000) c0_12 c1_12) ⟨(Nat.le_of_ble_eq_true rfl), (Nat.le_of_ble_eq_true rfl), (Nat.le_of_ble_eq_true rfl), (Nat.le_of_ble_eq_true rfl)⟩ rfl
theorem ct_Hall_await_none_1 {A : Nat → Nat} {K : sh_II} {L : sh_DD} {t : Nat} {s : Nat} {y : UInt64} (ht : t < 6) (hs : s < 8) (hz0 : cw_cl (K 12 s) = 0) (hl1 : ¬ (Op.cmpValue (FP.dcmp y (FP.i2d (-1))) .l) < 0) (hl2 : (Op.cmpValue (FP.dcmp y (FP.i2d 1000)) .g) ≤ 0) : sh_cM A md_Hall_await [.ref (A 0), .int (nI t), .int (nI s), .double y] K L (.inr 2) K L := by
  refine sh_cp (fun w Z k => sh_aload_n dc_Hall_await_0 rfl rfl k) ?_
  refine sh_cp (fun w Z k => sh_iload_n dc_Hall_await_1 rfl rfl k) ?_
  refine sh_ccall (fun w hw => sh_virt (As := [.int (nI t)]) dc_Hall_await_2 lm_Hall_workerAt ln_Hall_62 wd_448 wd_3 rfl rfl (Nat.le_of_ble_eq_true rfl) (hw _ _ cw_o0) rfl) (ct_Hall_workerAt_1 (t := t) (by omega)) ⟨(Nat.le_of_ble_eq_true rfl), (Nat.le_of_ble_eq_true rfl), (Nat.le_of_ble_eq_true rfl), (Nat.le_of_ble_eq_true rfl)⟩ ?_
  show sh_cW _ _ (_, _, [.ref (A (10 + t))]) K L _ _ _ _ _
  refine sh_cp (fun w Z k => sh_astore dc_Hall_await_5 (by decide) k) ?_
  refine sh_cp (fun w Z k => sh_dload_n dc_Hall_await_7 rfl rfl k) ?_
  refine sh_cp (fun w Z k => sh_iconst (v := (-1)) dc_Hall_await_8 (by decide) k) ?_
  refine sh_cp (fun w Z k => sh_sipush (v := 1000) dc_Hall_await_9 (by decide) k) ?_
  refine sh_ccall (fun w hw => sh_stat (As := [.double y, .int (-1), .int 1000]) dc_Hall_await_12 lm_Hall_checkAmount ln_Hall_66 wd_451 wd_49 rfl rfl (Nat.le_of_ble_eq_true rfl)) (ct_Hall_checkAmount_2 (x := y) (lo := (-1)) (hi := 1000) hl1 hl2) ⟨(Nat.le_of_ble_eq_true rfl), (Nat.le_of_ble_eq_true rfl), (Nat.le_of_ble_eq_true rfl), (Nat.le_of_ble_eq_true rfl)⟩ ?_
  show sh_cW _ _ (_, _, []) K L _ _ _ _ _
  refine sh_cp (fun w Z k => sh_aload_n dc_Hall_await_15 rfl rfl k) ?_
  refine sh_cp (fun w Z k => sh_aload dc_Hall_await_16 rfl k) ?_
  refine sh_cp (fun w Z k => sh_iload_n dc_Hall_await_18 rfl rfl k) ?_
  exact sh_ccallT (fun w hw => sh_virt (As := [.ref (A (10 + t)), .int (nI s)]) dc_Hall_await_19 lm_Hall_conditionFor ln_Hall_147 wd_733 wd_24 rfl rfl (Nat.le_of_ble_eq_true rfl) (hw _ _ cw_o0) rfl) (ct_Hall_conditionFor_none_1 (t := t) (s := s) (by omega) (by omega) hz0) ⟨(Nat.le_of_ble_eq_true rfl), (Nat.le_of_ble_eq_true rfl), (Nat.le_of_ble_eq_true rfl), (Nat.le_of_ble_eq_true rfl)⟩ rfl
theorem ct_Hall_await_Lock_1 {A : Nat → Nat} {K : sh_II} {L : sh_DD} {t : Nat} {s : Nat} {y : UInt64} (ht : t < 6) (hs : s < 8) (hl1 : ¬ (Op.cmpValue (FP.dcmp y (FP.i2d (-1))) .l) < 0) (hl2 : (Op.cmpValue (FP.dcmp y (FP.i2d 1000)) .g) ≤ 0) (hk_s : cw_cl (K 12 s) = 4) (c0_19 : (K 5 t) = -1) : sh_cM A md_Hall_await [.ref (A 0), .int (nI t), .int (nI s), .double y] K L (.inr 4) K L := by
  refine sh_cp (fun w Z k => sh_aload_n dc_Hall_await_0 rfl rfl k) ?_
  refine sh_cp (fun w Z k => sh_iload_n dc_Hall_await_1 rfl rfl k) ?_
  refine sh_ccall (fun w hw => sh_virt (As := [.int (nI t)]) dc_Hall_await_2 lm_Hall_workerAt ln_Hall_62 wd_448 wd_3 rfl rfl (Nat.le_of_ble_eq_true rfl) (hw _ _ cw_o0) rfl) (ct_Hall_workerAt_1 (t := t) (by omega)) ⟨(Nat.le_of_ble_eq_true rfl), (Nat.le_of_ble_eq_true rfl), (Nat.le_of_ble_eq_true rfl), (Nat.le_of_ble_eq_true rfl)⟩ ?_
  show sh_cW _ _ (_, _, [.ref (A (10 + t))]) K L _ _ _ _ _
  refine sh_cp (fun w Z k => sh_astore dc_Hall_await_5 (by decide) k) ?_
  refine sh_cp (fun w Z k => sh_dload_n dc_Hall_await_7 rfl rfl k) ?_
  refine sh_cp (fun w Z k => sh_iconst (v := (-1)) dc_Hall_await_8 (by decide) k) ?_
  refine sh_cp (fun w Z k => sh_sipush (v := 1000) dc_Hall_await_9 (by decide) k) ?_
  refine sh_ccall (fun w hw => sh_stat (As := [.double y, .int (-1), .int 1000]) dc_Hall_await_12 lm_Hall_checkAmount ln_Hall_66 wd_451 wd_49 rfl rfl (Nat.le_of_ble_eq_true rfl)) (ct_Hall_checkAmount_2 (x := y) (lo := (-1)) (hi := 1000) hl1 hl2) ⟨(Nat.le_of_ble_eq_true rfl), (Nat.le_of_ble_eq_true rfl), (Nat.le_of_ble_eq_true rfl), (Nat.le_of_ble_eq_true rfl)⟩ ?_
  show sh_cW _ _ (_, _, []) K L _ _ _ _ _
  refine sh_cp (fun w Z k => sh_aload_n dc_Hall_await_15 rfl rfl k) ?_
  refine sh_cp (fun w Z k => sh_aload dc_Hall_await_16 rfl k) ?_
  refine sh_cp (fun w Z k => sh_iload_n dc_Hall_await_18 rfl rfl k) ?_
  exact sh_ccallT (fun w hw => sh_virt (As := [.ref (A (10 + t)), .int (nI s)]) dc_Hall_await_19 lm_Hall_conditionFor ln_Hall_147 wd_733 wd_24 rfl rfl (Nat.le_of_ble_eq_true rfl) (hw _ _ cw_o0) rfl) (ct_Hall_conditionFor_Lock_1 (t := t) (s := s) (by omega) (by omega) hk_s c0_19) ⟨(Nat.le_of_ble_eq_true rfl), (Nat.le_of_ble_eq_true rfl), (Nat.le_of_ble_eq_true rfl), (Nat.le_of_ble_eq_true rfl)⟩ rfl
theorem ct_Hall_await_Lock_2 {A : Nat → Nat} {K : sh_II} {L : sh_DD} {t : Nat} {s : Nat} {y : UInt64} {u5_19 : Nat} (ht : t < 6) (hs : s < 8) (hl1 : ¬ (Op.cmpValue (FP.dcmp y (FP.i2d (-1))) .l) < 0) (hl2 : (Op.cmpValue (FP.dcmp y (FP.i2d 1000)) .g) ≤ 0) (hk_s : cw_cl (K 12 s) = 4) (hu5_19 : u5_19 < 8) (c1_19 : (K 5 t) = nI u5_19) : sh_cM A md_Hall_await [.ref (A 0), .int (nI t), .int (nI s), .double y] K L (.inr 3) K L := by
  refine sh_cp (fun w Z k => sh_aload_n dc_Hall_await_0 rfl rfl k) ?_
  refine sh_cp (fun w Z k => sh_iload_n dc_Hall_await_1 rfl rfl k) ?_
  refine sh_ccall (fun w hw => sh_virt (As := [.int (nI t)]) dc_Hall_await_2 lm_Hall_workerAt ln_Hall_62 wd_448 wd_3 rfl rfl (Nat.le_of_ble_eq_true rfl) (hw _ _ cw_o0) rfl) (ct_Hall_workerAt_1 (t := t) (by omega)) ⟨(Nat.le_of_ble_eq_true rfl), (Nat.le_of_ble_eq_true rfl), (Nat.le_of_ble_eq_true rfl), (Nat.le_of_ble_eq_true rfl)⟩ ?_
  show sh_cW _ _ (_, _, [.ref (A (10 + t))]) K L _ _ _ _ _
  refine sh_cp (fun w Z k => sh_astore dc_Hall_await_5 (by decide) k) ?_
  refine sh_cp (fun w Z k => sh_dload_n dc_Hall_await_7 rfl rfl k) ?_
  refine sh_cp (fun w Z k => sh_iconst (v := (-1)) dc_Hall_await_8 (by decide) k) ?_
  refine sh_cp (fun w Z k => sh_sipush (v := 1000) dc_Hall_await_9 (by decide) k) ?_
  refine sh_ccall (fun w hw => sh_stat (As := [.double y, .int (-1), .int 1000]) dc_Hall_await_12 lm_Hall_checkAmount ln_Hall_66 wd_451 wd_49 rfl rfl (Nat.le_of_ble_eq_true rfl)) (ct_Hall_checkAmount_2 (x := y) (lo := (-1)) (hi := 1000) hl1 hl2) ⟨(Nat.le_of_ble_eq_true rfl), (Nat.le_of_ble_eq_true rfl), (Nat.le_of_ble_eq_true rfl), (Nat.le_of_ble_eq_true rfl)⟩ ?_
  show sh_cW _ _ (_, _, []) K L _ _ _ _ _
  refine sh_cp (fun w Z k => sh_aload_n dc_Hall_await_15 rfl rfl k) ?_
  refine sh_cp (fun w Z k => sh_aload dc_Hall_await_16 rfl k) ?_
  refine sh_cp (fun w Z k => sh_iload_n dc_Hall_await_18 rfl rfl k) ?_
  exact sh_ccallT (fun w hw => sh_virt (As := [.ref (A (10 + t)), .int (nI s)]) dc_Hall_await_19 lm_Hall_conditionFor ln_Hall_147 wd_733 wd_24 rfl rfl (Nat.le_of_ble_eq_true rfl) (hw _ _ cw_o0) rfl) (ct_Hall_conditionFor_Lock_2 (t := t) (s := s) (u5_7 := u5_19) (by omega) (by omega) hk_s (by omega) c1_19) ⟨(Nat.le_of_ble_eq_true rfl), (Nat.le_of_ble_eq_true rfl), (Nat.le_of_ble_eq_true rfl), (Nat.le_of_ble_eq_true rfl)⟩ rfl
theorem ct_Hall_await_Semaphore_1 {A : Nat → Nat} {K : sh_II} {L : sh_DD} {t : Nat} {s : Nat} {y : UInt64} (ht : t < 6) (hs : s < 8) (hl1 : ¬ (Op.cmpValue (FP.dcmp y (FP.i2d (-1))) .l) < 0) (hl2 : (Op.cmpValue (FP.dcmp y (FP.i2d 1000)) .g) ≤ 0) (hk_s : cw_cl (K 12 s) = 5) (c0_19 : (K 5 t) = -1) : sh_cM A md_Hall_await [.ref (A 0), .int (nI t), .int (nI s), .double y] K L (.inr 4) K L := by
  refine sh_cp (fun w Z k => sh_aload_n dc_Hall_await_0 rfl rfl k) ?_
  refine sh_cp (fun w Z k => sh_iload_n dc_Hall_await_1 rfl rfl k) ?_
  refine sh_ccall (fun w hw => sh_virt (As := [.int (nI t)]) dc_Hall_await_2 lm_Hall_workerAt ln_Hall_62 wd_448 wd_3 rfl rfl (Nat.le_of_ble_eq_true rfl) (hw _ _ cw_o0) rfl) (ct_Hall_workerAt_1 (t := t) (by omega)) ⟨(Nat.le_of_ble_eq_true rfl), (Nat.le_of_ble_eq_true rfl), (Nat.le_of_ble_eq_true rfl), (Nat.le_of_ble_eq_true rfl)⟩ ?_
  show sh_cW _ _ (_, _, [.ref (A (10 + t))]) K L _ _ _ _ _
  refine sh_cp (fun w Z k => sh_astore dc_Hall_await_5 (by decide) k) ?_
  refine sh_cp (fun w Z k => sh_dload_n dc_Hall_await_7 rfl rfl k) ?_
  refine sh_cp (fun w Z k => sh_iconst (v := (-1)) dc_Hall_await_8 (by decide) k) ?_
  refine sh_cp (fun w Z k => sh_sipush (v := 1000) dc_Hall_await_9 (by decide) k) ?_
  refine sh_ccall (fun w hw => sh_stat (As := [.double y, .int (-1), .int 1000]) dc_Hall_await_12 lm_Hall_checkAmount ln_Hall_66 wd_451 wd_49 rfl rfl (Nat.le_of_ble_eq_true rfl)) (ct_Hall_checkAmount_2 (x := y) (lo := (-1)) (hi := 1000) hl1 hl2) ⟨(Nat.le_of_ble_eq_true rfl), (Nat.le_of_ble_eq_true rfl), (Nat.le_of_ble_eq_true rfl), (Nat.le_of_ble_eq_true rfl)⟩ ?_
  show sh_cW _ _ (_, _, []) K L _ _ _ _ _
  refine sh_cp (fun w Z k => sh_aload_n dc_Hall_await_15 rfl rfl k) ?_
  refine sh_cp (fun w Z k => sh_aload dc_Hall_await_16 rfl k) ?_
  refine sh_cp (fun w Z k => sh_iload_n dc_Hall_await_18 rfl rfl k) ?_
  exact sh_ccallT (fun w hw => sh_virt (As := [.ref (A (10 + t)), .int (nI s)]) dc_Hall_await_19 lm_Hall_conditionFor ln_Hall_147 wd_733 wd_24 rfl rfl (Nat.le_of_ble_eq_true rfl) (hw _ _ cw_o0) rfl) (ct_Hall_conditionFor_Semaphore_1 (t := t) (s := s) (by omega) (by omega) hk_s c0_19) ⟨(Nat.le_of_ble_eq_true rfl), (Nat.le_of_ble_eq_true rfl), (Nat.le_of_ble_eq_true rfl), (Nat.le_of_ble_eq_true rfl)⟩ rfl
theorem ct_Hall_await_Semaphore_2 {A : Nat → Nat} {K : sh_II} {L : sh_DD} {t : Nat} {s : Nat} {y : UInt64} {u5_19 : Nat} (ht : t < 6) (hs : s < 8) (hl1 : ¬ (Op.cmpValue (FP.dcmp y (FP.i2d (-1))) .l) < 0) (hl2 : (Op.cmpValue (FP.dcmp y (FP.i2d 1000)) .g) ≤ 0) (hk_s : cw_cl (K 12 s) = 5) (hu5_19 : u5_19 < 8) (c1_19 : (K 5 t) = nI u5_19) : sh_cM A md_Hall_await [.ref (A 0), .int (nI t), .int (nI s), .double y] K L (.inr 3) K L := by
  refine sh_cp (fun w Z k => sh_aload_n dc_Hall_await_0 rfl rfl k) ?_
  refine sh_cp (fun w Z k => sh_iload_n dc_Hall_await_1 rfl rfl k) ?_
  refine sh_ccall (fun w hw => sh_virt (As := [.int (nI t)]) dc_Hall_await_2 lm_Hall_workerAt ln_Hall_62 wd_448 wd_3 rfl rfl (Nat.le_of_ble_eq_true rfl) (hw _ _ cw_o0) rfl) (ct_Hall_workerAt_1 (t := t) (by omega)) ⟨(Nat.le_of_ble_eq_true rfl), (Nat.le_of_ble_eq_true rfl), (Nat.le_of_ble_eq_true rfl), (Nat.le_of_ble_eq_true rfl)⟩ ?_
  show sh_cW _ _ (_, _, [.ref (A (10 + t))]) K L _ _ _ _ _
  refine sh_cp (fun w Z k => sh_astore dc_Hall_await_5 (by decide) k) ?_
  refine sh_cp (fun w Z k => sh_dload_n dc_Hall_await_7 rfl rfl k) ?_
  refine sh_cp (fun w Z k => sh_iconst (v := (-1)) dc_Hall_await_8 (by decide) k) ?_
  refine sh_cp (fun w Z k => sh_sipush (v := 1000) dc_Hall_await_9 (by decide) k) ?_
  refine sh_ccall (fun w hw => sh_stat (As := [.double y, .int (-1), .int 1000]) dc_Hall_await_12 lm_Hall_checkAmount ln_Hall_66 wd_451 wd_49 rfl rfl (Nat.le_of_ble_eq_true rfl)) (ct_Hall_checkAmount_2 (x := y) (lo := (-1)) (hi := 1000) hl1 hl2) ⟨(Nat.le_of_ble_eq_true rfl), (Nat.le_of_ble_eq_true rfl), (Nat.le_of_ble_eq_true rfl), (Nat.le_of_ble_eq_true rfl)⟩ ?_
  show sh_cW _ _ (_, _, []) K L _ _ _ _ _
  refine sh_cp (fun w Z k => sh_aload_n dc_Hall_await_15 rfl rfl k) ?_
  refine sh_cp (fun w Z k => sh_aload dc_Hall_await_16 rfl k) ?_
  refine sh_cp (fun w Z k => sh_iload_n dc_Hall_await_18 rfl rfl k) ?_
  exact sh_ccallT (fun w hw => sh_virt (As := [.ref (A (10 + t)), .int (nI s)]) dc_Hall_await_19 lm_Hall_conditionFor ln_Hall_147 wd_733 wd_24 rfl rfl (Nat.le_of_ble_eq_true rfl) (hw _ _ cw_o0) rfl) (ct_Hall_conditionFor_Semaphore_2 (t := t) (s := s) (u5_7 := u5_19) (by omega) (by omega) hk_s (by omega) c1_19) ⟨(Nat.le_of_ble_eq_true rfl), (Nat.le_of_ble_eq_true rfl), (Nat.le_of_ble_eq_true rfl), (Nat.le_of_ble_eq_true rfl)⟩ rfl
theorem ct_Hall_await_Latch_1 {A : Nat → Nat} {K : sh_II} {L : sh_DD} {t : Nat} {s : Nat} {y : UInt64} (ht : t < 6) (hs : s < 8) (hl1 : ¬ (Op.cmpValue (FP.dcmp y (FP.i2d (-1))) .l) < 0) (hl2 : (Op.cmpValue (FP.dcmp y (FP.i2d 1000)) .g) ≤ 0) (hk_s : cw_cl (K 12 s) = 6) (c0_19 : (K 5 t) = -1) : sh_cM A md_Hall_await [.ref (A 0), .int (nI t), .int (nI s), .double y] K L (.inr 4) K L := by
  refine sh_cp (fun w Z k => sh_aload_n dc_Hall_await_0 rfl rfl k) ?_
  refine sh_cp (fun w Z k => sh_iload_n dc_Hall_await_1 rfl rfl k) ?_
  refine sh_ccall (fun w hw => sh_virt (As := [.int (nI t)]) dc_Hall_await_2 lm_Hall_workerAt ln_Hall_62 wd_448 wd_3 rfl rfl (Nat.le_of_ble_eq_true rfl) (hw _ _ cw_o0) rfl) (ct_Hall_workerAt_1 (t := t) (by omega)) ⟨(Nat.le_of_ble_eq_true rfl), (Nat.le_of_ble_eq_true rfl), (Nat.le_of_ble_eq_true rfl), (Nat.le_of_ble_eq_true rfl)⟩ ?_
  show sh_cW _ _ (_, _, [.ref (A (10 + t))]) K L _ _ _ _ _
  refine sh_cp (fun w Z k => sh_astore dc_Hall_await_5 (by decide) k) ?_
  refine sh_cp (fun w Z k => sh_dload_n dc_Hall_await_7 rfl rfl k) ?_
  refine sh_cp (fun w Z k => sh_iconst (v := (-1)) dc_Hall_await_8 (by decide) k) ?_
  refine sh_cp (fun w Z k => sh_sipush (v := 1000) dc_Hall_await_9 (by decide) k) ?_
  refine sh_ccall (fun w hw => sh_stat (As := [.double y, .int (-1), .int 1000]) dc_Hall_await_12 lm_Hall_checkAmount ln_Hall_66 wd_451 wd_49 rfl rfl (Nat.le_of_ble_eq_true rfl)) (ct_Hall_checkAmount_2 (x := y) (lo := (-1)) (hi := 1000) hl1 hl2) ⟨(Nat.le_of_ble_eq_true rfl), (Nat.le_of_ble_eq_true rfl), (Nat.le_of_ble_eq_true rfl), (Nat.le_of_ble_eq_true rfl)⟩ ?_
  show sh_cW _ _ (_, _, []) K L _ _ _ _ _
  refine sh_cp (fun w Z k => sh_aload_n dc_Hall_await_15 rfl rfl k) ?_
  refine sh_cp (fun w Z k => sh_aload dc_Hall_await_16 rfl k) ?_
  refine sh_cp (fun w Z k => sh_iload_n dc_Hall_await_18 rfl rfl k) ?_
  exact sh_ccallT (fun w hw => sh_virt (As := [.ref (A (10 + t)), .int (nI s)]) dc_Hall_await_19 lm_Hall_conditionFor ln_Hall_147 wd_733 wd_24 rfl rfl (Nat.le_of_ble_eq_true rfl) (hw _ _ cw_o0) rfl) (ct_Hall_conditionFor_Latch_1 (t := t) (s := s) (by omega) (by omega) hk_s c0_19) ⟨(Nat.le_of_ble_eq_true rfl), (Nat.le_of_ble_eq_true rfl), (Nat.le_of_ble_eq_true rfl), (Nat.le_of_ble_eq_true rfl)⟩ rfl
theorem ct_Hall_await_Latch_2 {A : Nat → Nat} {K : sh_II} {L : sh_DD} {t : Nat} {s : Nat} {y : UInt64} {u5_19 : Nat} (ht : t < 6) (hs : s < 8) (hl1 : ¬ (Op.cmpValue (FP.dcmp y (FP.i2d (-1))) .l) < 0) (hl2 : (Op.cmpValue (FP.dcmp y (FP.i2d 1000)) .g) ≤ 0) (hk_s : cw_cl (K 12 s) = 6) (hu5_19 : u5_19 < 8) (c1_19 : (K 5 t) = nI u5_19) : sh_cM A md_Hall_await [.ref (A 0), .int (nI t), .int (nI s), .double y] K L (.inr 3) K L := by
  refine sh_cp (fun w Z k => sh_aload_n dc_Hall_await_0 rfl rfl k) ?_
  refine sh_cp (fun w Z k => sh_iload_n dc_Hall_await_1 rfl rfl k) ?_
  refine sh_ccall (fun w hw => sh_virt (As := [.int (nI t)]) dc_Hall_await_2 lm_Hall_workerAt ln_Hall_62 wd_448 wd_3 rfl rfl (Nat.le_of_ble_eq_true rfl) (hw _ _ cw_o0) rfl) (ct_Hall_workerAt_1 (t := t) (by omega)) ⟨(Nat.le_of_ble_eq_true rfl), (Nat.le_of_ble_eq_true rfl), (Nat.le_of_ble_eq_true rfl), (Nat.le_of_ble_eq_true rfl)⟩ ?_
  show sh_cW _ _ (_, _, [.ref (A (10 + t))]) K L _ _ _ _ _
  refine sh_cp (fun w Z k => sh_astore dc_Hall_await_5 (by decide) k) ?_
  refine sh_cp (fun w Z k => sh_dload_n dc_Hall_await_7 rfl rfl k) ?_
  refine sh_cp (fun w Z k => sh_iconst (v := (-1)) dc_Hall_await_8 (by decide) k) ?_
  refine sh_cp (fun w Z k => sh_sipush (v := 1000) dc_Hall_await_9 (by decide) k) ?_
  refine sh_ccall (fun w hw => sh_stat (As := [.double y, .int (-1), .int 1000]) dc_Hall_await_12 lm_Hall_checkAmount ln_Hall_66 wd_451 wd_49 rfl rfl (Nat.le_of_ble_eq_true rfl)) (ct_Hall_checkAmount_2 (x := y) (lo := (-1)) (hi := 1000) hl1 hl2) ⟨(Nat.le_of_ble_eq_true rfl), (Nat.le_of_ble_eq_true rfl), (Nat.le_of_ble_eq_true rfl), (Nat.le_of_ble_eq_true rfl)⟩ ?_
  show sh_cW _ _ (_, _, []) K L _ _ _ _ _
  refine sh_cp (fun w Z k => sh_aload_n dc_Hall_await_15 rfl rfl k) ?_
  refine sh_cp (fun w Z k => sh_aload dc_Hall_await_16 rfl k) ?_
  refine sh_cp (fun w Z k => sh_iload_n dc_Hall_await_18 rfl rfl k) ?_
  exact sh_ccallT (fun w hw => sh_virt (As := [.ref (A (10 + t)), .int (nI s)]) dc_Hall_await_19 lm_Hall_conditionFor ln_Hall_147 wd_733 wd_24 rfl rfl (Nat.le_of_ble_eq_true rfl) (hw _ _ cw_o0) rfl) (ct_Hall_conditionFor_Latch_2 (t := t) (s := s) (u5_7 := u5_19) (by omega) (by omega) hk_s (by omega) c1_19) ⟨(Nat.le_of_ble_eq_true rfl), (Nat.le_of_ble_eq_true rfl), (Nat.le_of_ble_eq_true rfl), (Nat.le_of_ble_eq_true rfl)⟩ rfl
theorem ct_Hall_await_Shared_1 {A : Nat → Nat} {K : sh_II} {L : sh_DD} {t : Nat} {s : Nat} {y : UInt64} (ht : t < 6) (hs : s < 8) (hl1 : ¬ (Op.cmpValue (FP.dcmp y (FP.i2d (-1))) .l) < 0) (hl2 : (Op.cmpValue (FP.dcmp y (FP.i2d 1000)) .g) ≤ 0) (hk_s : cw_cl (K 12 s) = 7) (c0_19 : (K 5 t) = -1) : sh_cM A md_Hall_await [.ref (A 0), .int (nI t), .int (nI s), .double y] K L (.inr 4) K L := by
  refine sh_cp (fun w Z k => sh_aload_n dc_Hall_await_0 rfl rfl k) ?_
  refine sh_cp (fun w Z k => sh_iload_n dc_Hall_await_1 rfl rfl k) ?_
  refine sh_ccall (fun w hw => sh_virt (As := [.int (nI t)]) dc_Hall_await_2 lm_Hall_workerAt ln_Hall_62 wd_448 wd_3 rfl rfl (Nat.le_of_ble_eq_true rfl) (hw _ _ cw_o0) rfl) (ct_Hall_workerAt_1 (t := t) (by omega)) ⟨(Nat.le_of_ble_eq_true rfl), (Nat.le_of_ble_eq_true rfl), (Nat.le_of_ble_eq_true rfl), (Nat.le_of_ble_eq_true rfl)⟩ ?_
  show sh_cW _ _ (_, _, [.ref (A (10 + t))]) K L _ _ _ _ _
  refine sh_cp (fun w Z k => sh_astore dc_Hall_await_5 (by decide) k) ?_
  refine sh_cp (fun w Z k => sh_dload_n dc_Hall_await_7 rfl rfl k) ?_
  refine sh_cp (fun w Z k => sh_iconst (v := (-1)) dc_Hall_await_8 (by decide) k) ?_
  refine sh_cp (fun w Z k => sh_sipush (v := 1000) dc_Hall_await_9 (by decide) k) ?_
  refine sh_ccall (fun w hw => sh_stat (As := [.double y, .int (-1), .int 1000]) dc_Hall_await_12 lm_Hall_checkAmount ln_Hall_66 wd_451 wd_49 rfl rfl (Nat.le_of_ble_eq_true rfl)) (ct_Hall_checkAmount_2 (x := y) (lo := (-1)) (hi := 1000) hl1 hl2) ⟨(Nat.le_of_ble_eq_true rfl), (Nat.le_of_ble_eq_true rfl), (Nat.le_of_ble_eq_true rfl), (Nat.le_of_ble_eq_true rfl)⟩ ?_
  show sh_cW _ _ (_, _, []) K L _ _ _ _ _
  refine sh_cp (fun w Z k => sh_aload_n dc_Hall_await_15 rfl rfl k) ?_
  refine sh_cp (fun w Z k => sh_aload dc_Hall_await_16 rfl k) ?_
  refine sh_cp (fun w Z k => sh_iload_n dc_Hall_await_18 rfl rfl k) ?_
  exact sh_ccallT (fun w hw => sh_virt (As := [.ref (A (10 + t)), .int (nI s)]) dc_Hall_await_19 lm_Hall_conditionFor ln_Hall_147 wd_733 wd_24 rfl rfl (Nat.le_of_ble_eq_true rfl) (hw _ _ cw_o0) rfl) (ct_Hall_conditionFor_Shared_1 (t := t) (s := s) (by omega) (by omega) hk_s c0_19) ⟨(Nat.le_of_ble_eq_true rfl), (Nat.le_of_ble_eq_true rfl), (Nat.le_of_ble_eq_true rfl), (Nat.le_of_ble_eq_true rfl)⟩ rfl
theorem ct_Hall_await_Shared_2 {A : Nat → Nat} {K : sh_II} {L : sh_DD} {t : Nat} {s : Nat} {y : UInt64} {u5_19 : Nat} (ht : t < 6) (hs : s < 8) (hl1 : ¬ (Op.cmpValue (FP.dcmp y (FP.i2d (-1))) .l) < 0) (hl2 : (Op.cmpValue (FP.dcmp y (FP.i2d 1000)) .g) ≤ 0) (hk_s : cw_cl (K 12 s) = 7) (hu5_19 : u5_19 < 8) (c1_19 : (K 5 t) = nI u5_19) : sh_cM A md_Hall_await [.ref (A 0), .int (nI t), .int (nI s), .double y] K L (.inr 3) K L := by
  refine sh_cp (fun w Z k => sh_aload_n dc_Hall_await_0 rfl rfl k) ?_
  refine sh_cp (fun w Z k => sh_iload_n dc_Hall_await_1 rfl rfl k) ?_
  refine sh_ccall (fun w hw => sh_virt (As := [.int (nI t)]) dc_Hall_await_2 lm_Hall_workerAt ln_Hall_62 wd_448 wd_3 rfl rfl (Nat.le_of_ble_eq_true rfl) (hw _ _ cw_o0) rfl) (ct_Hall_workerAt_1 (t := t) (by omega)) ⟨(Nat.le_of_ble_eq_true rfl), (Nat.le_of_ble_eq_true rfl), (Nat.le_of_ble_eq_true rfl), (Nat.le_of_ble_eq_true rfl)⟩ ?_
  show sh_cW _ _ (_, _, [.ref (A (10 + t))]) K L _ _ _ _ _
  refine sh_cp (fun w Z k => sh_astore dc_Hall_await_5 (by decide) k) ?_
  refine sh_cp (fun w Z k => sh_dload_n dc_Hall_await_7 rfl rfl k) ?_
  refine sh_cp (fun w Z k => sh_iconst (v := (-1)) dc_Hall_await_8 (by decide) k) ?_
  refine sh_cp (fun w Z k => sh_sipush (v := 1000) dc_Hall_await_9 (by decide) k) ?_
  refine sh_ccall (fun w hw => sh_stat (As := [.double y, .int (-1), .int 1000]) dc_Hall_await_12 lm_Hall_checkAmount ln_Hall_66 wd_451 wd_49 rfl rfl (Nat.le_of_ble_eq_true rfl)) (ct_Hall_checkAmount_2 (x := y) (lo := (-1)) (hi := 1000) hl1 hl2) ⟨(Nat.le_of_ble_eq_true rfl), (Nat.le_of_ble_eq_true rfl), (Nat.le_of_ble_eq_true rfl), (Nat.le_of_ble_eq_true rfl)⟩ ?_
  show sh_cW _ _ (_, _, []) K L _ _ _ _ _
  refine sh_cp (fun w Z k => sh_aload_n dc_Hall_await_15 rfl rfl k) ?_
  refine sh_cp (fun w Z k => sh_aload dc_Hall_await_16 rfl k) ?_
  refine sh_cp (fun w Z k => sh_iload_n dc_Hall_await_18 rfl rfl k) ?_
  exact sh_ccallT (fun w hw => sh_virt (As := [.ref (A (10 + t)), .int (nI s)]) dc_Hall_await_19 lm_Hall_conditionFor ln_Hall_147 wd_733 wd_24 rfl rfl (Nat.le_of_ble_eq_true rfl) (hw _ _ cw_o0) rfl) (ct_Hall_conditionFor_Shared_2 (t := t) (s := s) (u5_7 := u5_19) (by omega) (by omega) hk_s (by omega) c1_19) ⟨(Nat.le_of_ble_eq_true rfl), (Nat.le_of_ble_eq_true rfl), (Nat.le_of_ble_eq_true rfl), (Nat.le_of_ble_eq_true rfl)⟩ rfl
theorem ct_Hall_await_b_1 {A : Nat → Nat} {K : sh_II} {L : sh_DD} {t : Nat} {s : Nat} {y : UInt64} {q : Nat} {b : Nat} (ht : t < 6) (hs : s < 8) (hq : q < 8) (eq : K 16 s = nI q) (hl1 : ¬ (Op.cmpValue (FP.dcmp y (FP.i2d (-1))) .l) < 0) (hl2 : (Op.cmpValue (FP.dcmp y (FP.i2d 1000)) .g) ≤ 0) (hb : b < 8) (eb : K 5 t = nI b) (hk_s : cw_cl (K 12 s) = 8) (hk_q : cw_cl (K 12 q) = 4) : sh_cM A md_Hall_await [.ref (A 0), .int (nI t), .int (nI s), .double y] K L (.inr 3) K L := by
  refine sh_cp (fun w Z k => sh_aload_n dc_Hall_await_0 rfl rfl k) ?_
  refine sh_cp (fun w Z k => sh_iload_n dc_Hall_await_1 rfl rfl k) ?_
  refine sh_ccall (fun w hw => sh_virt (As := [.int (nI t)]) dc_Hall_await_2 lm_Hall_workerAt ln_Hall_62 wd_448 wd_3 rfl rfl (Nat.le_of_ble_eq_true rfl) (hw _ _ cw_o0) rfl) (ct_Hall_workerAt_1 (t := t) (by omega)) ⟨(Nat.le_of_ble_eq_true rfl), (Nat.le_of_ble_eq_true rfl), (Nat.le_of_ble_eq_true rfl), (Nat.le_of_ble_eq_true rfl)⟩ ?_
  show sh_cW _ _ (_, _, [.ref (A (10 + t))]) K L _ _ _ _ _
  refine sh_cp (fun w Z k => sh_astore dc_Hall_await_5 (by decide) k) ?_
  refine sh_cp (fun w Z k => sh_dload_n dc_Hall_await_7 rfl rfl k) ?_
  refine sh_cp (fun w Z k => sh_iconst (v := (-1)) dc_Hall_await_8 (by decide) k) ?_
  refine sh_cp (fun w Z k => sh_sipush (v := 1000) dc_Hall_await_9 (by decide) k) ?_
  refine sh_ccall (fun w hw => sh_stat (As := [.double y, .int (-1), .int 1000]) dc_Hall_await_12 lm_Hall_checkAmount ln_Hall_66 wd_451 wd_49 rfl rfl (Nat.le_of_ble_eq_true rfl)) (ct_Hall_checkAmount_2 (x := y) (lo := (-1)) (hi := 1000) hl1 hl2) ⟨(Nat.le_of_ble_eq_true rfl), (Nat.le_of_ble_eq_true rfl), (Nat.le_of_ble_eq_true rfl), (Nat.le_of_ble_eq_true rfl)⟩ ?_
  show sh_cW _ _ (_, _, []) K L _ _ _ _ _
  refine sh_cp (fun w Z k => sh_aload_n dc_Hall_await_15 rfl rfl k) ?_
  refine sh_cp (fun w Z k => sh_aload dc_Hall_await_16 rfl k) ?_
  refine sh_cp (fun w Z k => sh_iload_n dc_Hall_await_18 rfl rfl k) ?_
  exact sh_ccallT (fun w hw => sh_virt (As := [.ref (A (10 + t)), .int (nI s)]) dc_Hall_await_19 lm_Hall_conditionFor ln_Hall_147 wd_733 wd_24 rfl rfl (Nat.le_of_ble_eq_true rfl) (hw _ _ cw_o0) rfl) (ct_Hall_conditionFor_Condition_4 (t := t) (s := s) (q := q) (u5_7 := b) (by omega) (by omega) (by omega) eq hk_s hk_q (by omega) eb) ⟨(Nat.le_of_ble_eq_true rfl), (Nat.le_of_ble_eq_true rfl), (Nat.le_of_ble_eq_true rfl), (Nat.le_of_ble_eq_true rfl)⟩ rfl
theorem ct_Hall_await_1 {A : Nat → Nat} {K : sh_II} {L : sh_DD} {t : Nat} {s : Nat} {y : UInt64} {q : Nat} {l : List Nat} (ht : t < 6) (hs : s < 8) (hq : q < 8) (eq : K 16 s = nI q) (hl1 : ¬ (Op.cmpValue (FP.dcmp y (FP.i2d (-1))) .l) < 0) (hl2 : (Op.cmpValue (FP.dcmp y (FP.i2d 1000)) .g) ≤ 0) (hp : (K 5 t) = -1) (hr : cw_row K s l) (hlen : l.length < 6) (hk_s : cw_cl (K 12 s) = 8) (hk_q : cw_cl (K 12 q) = 4) (c0_19 : (K 13 q) = -1) : sh_cM A md_Hall_await [.ref (A 0), .int (nI t), .int (nI s), .double y] K L (.inr 3) K L := by
  refine sh_cp (fun w Z k => sh_aload_n dc_Hall_await_0 rfl rfl k) ?_
  refine sh_cp (fun w Z k => sh_iload_n dc_Hall_await_1 rfl rfl k) ?_
  refine sh_ccall (fun w hw => sh_virt (As := [.int (nI t)]) dc_Hall_await_2 lm_Hall_workerAt ln_Hall_62 wd_448 wd_3 rfl rfl (Nat.le_of_ble_eq_true rfl) (hw _ _ cw_o0) rfl) (ct_Hall_workerAt_1 (t := t) (by omega)) ⟨(Nat.le_of_ble_eq_true rfl), (Nat.le_of_ble_eq_true rfl), (Nat.le_of_ble_eq_true rfl), (Nat.le_of_ble_eq_true rfl)⟩ ?_
  show sh_cW _ _ (_, _, [.ref (A (10 + t))]) K L _ _ _ _ _
  refine sh_cp (fun w Z k => sh_astore dc_Hall_await_5 (by decide) k) ?_
  refine sh_cp (fun w Z k => sh_dload_n dc_Hall_await_7 rfl rfl k) ?_
  refine sh_cp (fun w Z k => sh_iconst (v := (-1)) dc_Hall_await_8 (by decide) k) ?_
  refine sh_cp (fun w Z k => sh_sipush (v := 1000) dc_Hall_await_9 (by decide) k) ?_
  refine sh_ccall (fun w hw => sh_stat (As := [.double y, .int (-1), .int 1000]) dc_Hall_await_12 lm_Hall_checkAmount ln_Hall_66 wd_451 wd_49 rfl rfl (Nat.le_of_ble_eq_true rfl)) (ct_Hall_checkAmount_2 (x := y) (lo := (-1)) (hi := 1000) hl1 hl2) ⟨(Nat.le_of_ble_eq_true rfl), (Nat.le_of_ble_eq_true rfl), (Nat.le_of_ble_eq_true rfl), (Nat.le_of_ble_eq_true rfl)⟩ ?_
  show sh_cW _ _ (_, _, []) K L _ _ _ _ _
  refine sh_cp (fun w Z k => sh_aload_n dc_Hall_await_15 rfl rfl k) ?_
  refine sh_cp (fun w Z k => sh_aload dc_Hall_await_16 rfl k) ?_
  refine sh_cp (fun w Z k => sh_iload_n dc_Hall_await_18 rfl rfl k) ?_
  exact sh_ccallT (fun w hw => sh_virt (As := [.ref (A (10 + t)), .int (nI s)]) dc_Hall_await_19 lm_Hall_conditionFor ln_Hall_147 wd_733 wd_24 rfl rfl (Nat.le_of_ble_eq_true rfl) (hw _ _ cw_o0) rfl) (ct_Hall_conditionFor_Condition_1 (t := t) (s := s) (q := q) (by omega) (by omega) (by omega) eq hk_s hk_q hp c0_19) ⟨(Nat.le_of_ble_eq_true rfl), (Nat.le_of_ble_eq_true rfl), (Nat.le_of_ble_eq_true rfl), (Nat.le_of_ble_eq_true rfl)⟩ rfl
theorem ct_Hall_await_2 {A : Nat → Nat} {K : sh_II} {L : sh_DD} {t : Nat} {s : Nat} {y : UInt64} {q : Nat} {l : List Nat} {u13_19 : Nat} {l73 : List Nat} (ht : t < 6) (hs : s < 8) (hq : q < 8) (eq : K 16 s = nI q) (hl1 : ¬ (Op.cmpValue (FP.dcmp y (FP.i2d (-1))) .l) < 0) (hl2 : (Op.cmpValue (FP.dcmp y (FP.i2d 1000)) .g) ≤ 0) (hp : (K 5 t) = -1) (hr : cw_row K s l) (hlen : l.length < 6) (hk_s : cw_cl (K 12 s) = 8) (hk_q : cw_cl (K 12 q) = 4) (hu13_19 : u13_19 < 6) (c1_19 : (K 13 q) = nI u13_19) (c2_19 : u13_19 = t) (v3_26 : narrow .boolean (.int (K 2 t)) = .int (K 2 t)) (c4_29 : (K 2 t) = 0) (c5_64 : (Op.cmpValue (FP.dcmp y FP.dconst0) .l) = 0) (v6_73 : cw_row (sh_u2 (sh_u2 (sh_u2 (sh_u2 K 2 t 0) 9 t (K 14 q)) 13 q (-1)) 14 q 0) q l73) (v7_73 : l73.length < 6) (v8_73 : sp_qok (sh_u2 (sh_u2 (sh_u2 (sh_u2 K 2 t 0) 9 t (K 14 q)) 13 q (-1)) 14 q 0) L q t 2 l73) : sh_cM A md_Hall_await [.ref (A 0), .int (nI t), .int (nI s), .double y] K L (.inl (some (.int ((sp_qfl (sh_u2 (sh_u2 (sh_u2 (sh_u2 K 2 t 0) 9 t (K 14 q)) 13 q (-1)) 14 q 0) L q t 2 l73).1 4 t)))) (sp_qfl (sh_u2 (sh_u2 (sh_u2 (sh_u2 K 2 t 0) 9 t (K 14 q)) 13 q (-1)) 14 q 0) L q t 2 l73).1 (sp_qfl (sh_u2 (sh_u2 (sh_u2 (sh_u2 K 2 t 0) 9 t (K 14 q)) 13 q (-1)) 14 q 0) L q t 2 l73).2 := by
  refine sh_cp (fun w Z k => sh_aload_n dc_Hall_await_0 rfl rfl k) ?_
  refine sh_cp (fun w Z k => sh_iload_n dc_Hall_await_1 rfl rfl k) ?_
  refine sh_ccall (fun w hw => sh_virt (As := [.int (nI t)]) dc_Hall_await_2 lm_Hall_workerAt ln_Hall_62 wd_448 wd_3 rfl rfl (Nat.le_of_ble_eq_true rfl) (hw _ _ cw_o0) rfl) (ct_Hall_workerAt_1 (t := t) (by omega)) ⟨(Nat.le_of_ble_eq_true rfl), (Nat.le_of_ble_eq_true rfl), (Nat.le_of_ble_eq_true rfl), (Nat.le_of_ble_eq_true rfl)⟩ ?_
  show sh_cW _ _ (_, _, [.ref (A (10 + t))]) K L _ _ _ _ _
  refine sh_cp (fun w Z k => sh_astore dc_Hall_await_5 (by decide) k) ?_
  refine sh_cp (fun w Z k => sh_dload_n dc_Hall_await_7 rfl rfl k) ?_
  refine sh_cp (fun w Z k => sh_iconst (v := (-1)) dc_Hall_await_8 (by decide) k) ?_
  refine sh_cp (fun w Z k => sh_sipush (v := 1000) dc_Hall_await_9 (by decide) k) ?_
  refine sh_ccall (fun w hw => sh_stat (As := [.double y, .int (-1), .int 1000]) dc_Hall_await_12 lm_Hall_checkAmount ln_Hall_66 wd_451 wd_49 rfl rfl (Nat.le_of_ble_eq_true rfl)) (ct_Hall_checkAmount_2 (x := y) (lo := (-1)) (hi := 1000) hl1 hl2) ⟨(Nat.le_of_ble_eq_true rfl), (Nat.le_of_ble_eq_true rfl), (Nat.le_of_ble_eq_true rfl), (Nat.le_of_ble_eq_true rfl)⟩ ?_
  show sh_cW _ _ (_, _, []) K L _ _ _ _ _
  refine sh_cp (fun w Z k => sh_aload_n dc_Hall_await_15 rfl rfl k) ?_
  refine sh_cp (fun w Z k => sh_aload dc_Hall_await_16 rfl k) ?_
  refine sh_cp (fun w Z k => sh_iload_n dc_Hall_await_18 rfl rfl k) ?_
  refine sh_ccall (fun w hw => sh_virt (As := [.ref (A (10 + t)), .int (nI s)]) dc_Hall_await_19 lm_Hall_conditionFor ln_Hall_147 wd_733 wd_24 rfl rfl (Nat.le_of_ble_eq_true rfl) (hw _ _ cw_o0) rfl) (ct_Hall_conditionFor_Condition_2 (t := t) (s := s) (q := q) (u13_29 := u13_19) (by omega) (by omega) (by omega) eq hk_s hk_q hp (by omega) c1_19 c2_19) ⟨(Nat.le_of_ble_eq_true rfl), (Nat.le_of_ble_eq_true rfl), (Nat.le_of_ble_eq_true rfl), (Nat.le_of_ble_eq_true rfl)⟩ ?_
  show sh_cW _ _ (_, _, [.ref (A (20 + s))]) K L _ _ _ _ _
  refine sh_cp (fun w Z k => sh_astore dc_Hall_await_22 (by decide) k) ?_
  refine sh_cp (fun w Z k => sh_aload dc_Hall_await_24 rfl k) ?_
  refine sh_ccall (fun w hw => sh_virt (As := []) dc_Hall_await_26 lm_Worker_dropFlag ln_Hall_85 wd_492 wd_5 rfl rfl (Nat.le_of_ble_eq_true rfl) (hw _ _ (cw_ow (by omega))) rfl) (ct_Worker_dropFlag_1 (t := t) (by omega) v3_26) ⟨(Nat.le_of_ble_eq_true rfl), (Nat.le_of_ble_eq_true rfl), (Nat.le_of_ble_eq_true rfl), (Nat.le_of_ble_eq_true rfl)⟩ ?_
  show sh_cW _ _ (_, _, [.int (K 2 t)]) (sh_u2 K 2 t 0) L _ _ _ _ _
  refine sh_cp (fun w Z k => sh_if_eq (tgt := 39) dc_Hall_await_29 (by decide) (fun _ => k) (fun z => absurd c4_29 z)) ?_
  refine sh_cp (fun w Z k => sh_aload dc_Hall_await_39 rfl k) ?_
  refine sh_cget (20 + s) 4 dc_Hall_await_41 (cw_oc (by omega) ((congrArg cw_cl (sh_u2_row (by decide) _)).trans hk_s)) rfl (by decide) fl_Hall_151 rfl rfl rfl rfl ?_
  refine sh_ctv (cw_rf_n (Eq.trans (sh_u2_row (by decide) _) eq) (by omega)) ?_
  refine sh_cp (fun w Z k => sh_astore dc_Hall_await_44 (by decide) k) ?_
  refine sh_cp (fun w Z k => sh_aload dc_Hall_await_46 rfl k) ?_
  refine sh_cp (fun w Z k => sh_aload dc_Hall_await_48 rfl k) ?_
  refine sh_cget (20 + q) 5 dc_Hall_await_50 (cw_ol (by omega) ((congrArg cw_cl (sh_u2_row (by decide) _)).trans hk_q)) rfl (by decide) fl_Hall_157 rfl rfl rfl rfl ?_
  refine sh_cti (show (sh_u2 K 2 t 0) 14 q = K 14 q from (sh_u2_row (by decide) _)) ?_
  refine sh_cput (K1 := (sh_u2 (sh_u2 K 2 t 0) 9 t (K 14 q))) (L1 := L) (10 + t) 9 dc_Hall_await_53 (cw_ow (by omega)) rfl (by decide) fl_Hall_113 rfl rfl rfl rfl pd_I rfl rfl (cq_Worker_9 (by omega)) (fun i hi => cw_upI (by decide) hi) ?_
  refine sh_cp (fun w Z k => sh_aload dc_Hall_await_56 rfl k) ?_
  refine sh_ccall (fun w hw => sh_virt (As := []) dc_Hall_await_58 lm_Lock_free ln_Hall_162 wd_644 wd_18 rfl rfl (Nat.le_of_ble_eq_true rfl) (hw _ _ (cw_ol (by omega) ((congrArg cw_cl (Eq.trans (sh_u2_row (by decide) _) (sh_u2_row (by decide) _))).trans hk_q))) rfl) (ct_Lock_free_1 (s := q) (by omega) ((congrArg cw_cl (Eq.trans (sh_u2_row (by decide) _) (sh_u2_row (by decide) _))).trans hk_q)) ⟨(Nat.le_of_ble_eq_true rfl), (Nat.le_of_ble_eq_true rfl), (Nat.le_of_ble_eq_true rfl), (Nat.le_of_ble_eq_true rfl)⟩ ?_
  show sh_cW _ _ (_, _, []) (sh_u2 (sh_u2 (sh_u2 (sh_u2 K 2 t 0) 9 t (K 14 q)) 13 q (-1)) 14 q 0) L _ _ _ _ _
  refine sh_cp (fun w Z k => sh_dload_n dc_Hall_await_61 rfl rfl k) ?_
  refine sh_cp (fun w Z k => sh_dconst0 dc_Hall_await_62 k) ?_
  refine sh_cp (fun w Z k => sh_dcmp dc_Hall_await_63 k) ?_
  refine sh_cp (fun w Z k => sh_if_ne (tgt := 79) dc_Hall_await_64 (by decide) (fun z => absurd c5_64 z) (fun _ => k)) ?_
  refine sh_cp (fun w Z k => sh_aload_n dc_Hall_await_67 rfl rfl k) ?_
  refine sh_cp (fun w Z k => sh_aload dc_Hall_await_68 rfl k) ?_
  refine sh_cp (fun w Z k => sh_aload dc_Hall_await_70 rfl k) ?_
  refine sh_cp (fun w Z k => sh_iconst (v := 2) dc_Hall_await_72 (by decide) k) ?_
  refine sh_ccall (fun w hw => sh_virt (As := [.ref (A (10 + t)), .ref (A (20 + q)), .int 2]) dc_Hall_await_73 lm_Hall_queueForLock ln_Hall_165 wd_740 wd_25 rfl rfl (Nat.le_of_ble_eq_true rfl) (hw _ _ cw_o0) rfl) (cl_qfl (t := t) (s := q) (x := 2) (l := l73) (by omega) (by omega) v6_73 v7_73 v8_73 ((congrArg cw_cl (Eq.trans (sh_u2_row (by decide) _) (Eq.trans (sh_u2_row (by decide) _) (Eq.trans (sh_u2_row (by decide) _) (sh_u2_row (by decide) _))))).trans hk_q)) ⟨(Nat.le_of_ble_eq_true rfl), (Nat.le_of_ble_eq_true rfl), (Nat.le_of_ble_eq_true rfl), (Nat.le_of_ble_eq_true rfl)⟩ ?_
  show sh_cW _ _ (_, _, []) (sp_qfl (sh_u2 (sh_u2 (sh_u2 (sh_u2 K 2 t 0) 9 t (K 14 q)) 13 q (-1)) 14 q 0) L q t 2 l73).1 (sp_qfl (sh_u2 (sh_u2 (sh_u2 (sh_u2 K 2 t 0) 9 t (K 14 q)) 13 q (-1)) 14 q 0) L q t 2 l73).2 _ _ _ _ _
  refine sh_cp (fun w Z k => sh_goto_ (tgt := 110) dc_Hall_await_76 (by decide) k) ?_
  refine sh_cp (fun w Z k => sh_aload dc_Hall_await_110 rfl k) ?_
  refine sh_cget (10 + t) 3 dc_Hall_await_112 (cw_ow (by omega)) rfl (by decide) fl_Hall_127 rfl rfl rfl rfl ?_
  exact sh_ce (fun w => sh_ireturn dc_Hall_await_115 rfl rfl (by decide) (by decide))
theorem ct_Hall_await_3 {A : Nat → Nat} {K : sh_II} {L : sh_DD} {t : Nat} {s : Nat} {y : UInt64} {q : Nat} {l : List Nat} {u13_19 : Nat} {l107 : List Nat} (ht : t < 6) (hs : s < 8) (hq : q < 8) (eq : K 16 s = nI q) (hl1 : ¬ (Op.cmpValue (FP.dcmp y (FP.i2d (-1))) .l) < 0) (hl2 : (Op.cmpValue (FP.dcmp y (FP.i2d 1000)) .g) ≤ 0) (hp : (K 5 t) = -1) (hr : cw_row K s l) (hlen : l.length < 6) (hk_s : cw_cl (K 12 s) = 8) (hk_q : cw_cl (K 12 q) = 4) (hu13_19 : u13_19 < 6) (c1_19 : (K 13 q) = nI u13_19) (c2_19 : u13_19 = t) (v3_26 : narrow .boolean (.int (K 2 t)) = .int (K 2 t)) (c4_29 : (K 2 t) = 0) (c5_64 : ¬ (Op.cmpValue (FP.dcmp y FP.dconst0) .l) = 0) (c6_98 : (Op.cmpValue (FP.dcmp y FP.dconst0) .l) ≤ 0) (v7_107 : cw_row (sp_enq (sh_u2 (sh_u2 (sh_u2 (sh_u2 K 2 t 0) 9 t (K 14 q)) 13 q (-1)) 14 q 0) s t 0 l) q l107) (v8_107 : sp_svok (L 11 0) q l107.length (sp_enq (sh_u2 (sh_u2 (sh_u2 (sh_u2 K 2 t 0) 9 t (K 14 q)) 13 q (-1)) 14 q 0) s t 0 l) (sh_u2 L 8 t (L 11 0)) l107) : sh_cM A md_Hall_await [.ref (A 0), .int (nI t), .int (nI s), .double y] K L (.inl (some (.int ((sp_serve (L 11 0) q l107.length (sp_enq (sh_u2 (sh_u2 (sh_u2 (sh_u2 K 2 t 0) 9 t (K 14 q)) 13 q (-1)) 14 q 0) s t 0 l) (sh_u2 L 8 t (L 11 0)) l107).1 4 t)))) (sp_serve (L 11 0) q l107.length (sp_enq (sh_u2 (sh_u2 (sh_u2 (sh_u2 K 2 t 0) 9 t (K 14 q)) 13 q (-1)) 14 q 0) s t 0 l) (sh_u2 L 8 t (L 11 0)) l107).1 (sp_serve (L 11 0) q l107.length (sp_enq (sh_u2 (sh_u2 (sh_u2 (sh_u2 K 2 t 0) 9 t (K 14 q)) 13 q (-1)) 14 q 0) s t 0 l) (sh_u2 L 8 t (L 11 0)) l107).2 := by
  refine sh_cp (fun w Z k => sh_aload_n dc_Hall_await_0 rfl rfl k) ?_
  refine sh_cp (fun w Z k => sh_iload_n dc_Hall_await_1 rfl rfl k) ?_
  refine sh_ccall (fun w hw => sh_virt (As := [.int (nI t)]) dc_Hall_await_2 lm_Hall_workerAt ln_Hall_62 wd_448 wd_3 rfl rfl (Nat.le_of_ble_eq_true rfl) (hw _ _ cw_o0) rfl) (ct_Hall_workerAt_1 (t := t) (by omega)) ⟨(Nat.le_of_ble_eq_true rfl), (Nat.le_of_ble_eq_true rfl), (Nat.le_of_ble_eq_true rfl), (Nat.le_of_ble_eq_true rfl)⟩ ?_
  show sh_cW _ _ (_, _, [.ref (A (10 + t))]) K L _ _ _ _ _
  refine sh_cp (fun w Z k => sh_astore dc_Hall_await_5 (by decide) k) ?_
  refine sh_cp (fun w Z k => sh_dload_n dc_Hall_await_7 rfl rfl k) ?_
  refine sh_cp (fun w Z k => sh_iconst (v := (-1)) dc_Hall_await_8 (by decide) k) ?_
  refine sh_cp (fun w Z k => sh_sipush (v := 1000) dc_Hall_await_9 (by decide) k) ?_
  refine sh_ccall (fun w hw => sh_stat (As := [.double y, .int (-1), .int 1000]) dc_Hall_await_12 lm_Hall_checkAmount ln_Hall_66 wd_451 wd_49 rfl rfl (Nat.le_of_ble_eq_true rfl)) (ct_Hall_checkAmount_2 (x := y) (lo := (-1)) (hi := 1000) hl1 hl2) ⟨(Nat.le_of_ble_eq_true rfl), (Nat.le_of_ble_eq_true rfl), (Nat.le_of_ble_eq_true rfl), (Nat.le_of_ble_eq_true rfl)⟩ ?_
  show sh_cW _ _ (_, _, []) K L _ _ _ _ _
  refine sh_cp (fun w Z k => sh_aload_n dc_Hall_await_15 rfl rfl k) ?_
  refine sh_cp (fun w Z k => sh_aload dc_Hall_await_16 rfl k) ?_
  refine sh_cp (fun w Z k => sh_iload_n dc_Hall_await_18 rfl rfl k) ?_
  refine sh_ccall (fun w hw => sh_virt (As := [.ref (A (10 + t)), .int (nI s)]) dc_Hall_await_19 lm_Hall_conditionFor ln_Hall_147 wd_733 wd_24 rfl rfl (Nat.le_of_ble_eq_true rfl) (hw _ _ cw_o0) rfl) (ct_Hall_conditionFor_Condition_2 (t := t) (s := s) (q := q) (u13_29 := u13_19) (by omega) (by omega) (by omega) eq hk_s hk_q hp (by omega) c1_19 c2_19) ⟨(Nat.le_of_ble_eq_true rfl), (Nat.le_of_ble_eq_true rfl), (Nat.le_of_ble_eq_true rfl), (Nat.le_of_ble_eq_true rfl)⟩ ?_
  show sh_cW _ _ (_, _, [.ref (A (20 + s))]) K L _ _ _ _ _
  refine sh_cp (fun w Z k => sh_astore dc_Hall_await_22 (by decide) k) ?_
  refine sh_cp (fun w Z k => sh_aload dc_Hall_await_24 rfl k) ?_
  refine sh_ccall (fun w hw => sh_virt (As := []) dc_Hall_await_26 lm_Worker_dropFlag ln_Hall_85 wd_492 wd_5 rfl rfl (Nat.le_of_ble_eq_true rfl) (hw _ _ (cw_ow (by omega))) rfl) (ct_Worker_dropFlag_1 (t := t) (by omega) v3_26) ⟨(Nat.le_of_ble_eq_true rfl), (Nat.le_of_ble_eq_true rfl), (Nat.le_of_ble_eq_true rfl), (Nat.le_of_ble_eq_true rfl)⟩ ?_
  show sh_cW _ _ (_, _, [.int (K 2 t)]) (sh_u2 K 2 t 0) L _ _ _ _ _
  refine sh_cp (fun w Z k => sh_if_eq (tgt := 39) dc_Hall_await_29 (by decide) (fun _ => k) (fun z => absurd c4_29 z)) ?_
  refine sh_cp (fun w Z k => sh_aload dc_Hall_await_39 rfl k) ?_
  refine sh_cget (20 + s) 4 dc_Hall_await_41 (cw_oc (by omega) ((congrArg cw_cl (sh_u2_row (by decide) _)).trans hk_s)) rfl (by decide) fl_Hall_151 rfl rfl rfl rfl ?_
  refine sh_ctv (cw_rf_n (Eq.trans (sh_u2_row (by decide) _) eq) (by omega)) ?_
  refine sh_cp (fun w Z k => sh_astore dc_Hall_await_44 (by decide) k) ?_
  refine sh_cp (fun w Z k => sh_aload dc_Hall_await_46 rfl k) ?_
  refine sh_cp (fun w Z k => sh_aload dc_Hall_await_48 rfl k) ?_
  refine sh_cget (20 + q) 5 dc_Hall_await_50 (cw_ol (by omega) ((congrArg cw_cl (sh_u2_row (by decide) _)).trans hk_q)) rfl (by decide) fl_Hall_157 rfl rfl rfl rfl ?_
  refine sh_cti (show (sh_u2 K 2 t 0) 14 q = K 14 q from (sh_u2_row (by decide) _)) ?_
  refine sh_cput (K1 := (sh_u2 (sh_u2 K 2 t 0) 9 t (K 14 q))) (L1 := L) (10 + t) 9 dc_Hall_await_53 (cw_ow (by omega)) rfl (by decide) fl_Hall_113 rfl rfl rfl rfl pd_I rfl rfl (cq_Worker_9 (by omega)) (fun i hi => cw_upI (by decide) hi) ?_
  refine sh_cp (fun w Z k => sh_aload dc_Hall_await_56 rfl k) ?_
  refine sh_ccall (fun w hw => sh_virt (As := []) dc_Hall_await_58 lm_Lock_free ln_Hall_162 wd_644 wd_18 rfl rfl (Nat.le_of_ble_eq_true rfl) (hw _ _ (cw_ol (by omega) ((congrArg cw_cl (Eq.trans (sh_u2_row (by decide) _) (sh_u2_row (by decide) _))).trans hk_q))) rfl) (ct_Lock_free_1 (s := q) (by omega) ((congrArg cw_cl (Eq.trans (sh_u2_row (by decide) _) (sh_u2_row (by decide) _))).trans hk_q)) ⟨(Nat.le_of_ble_eq_true rfl), (Nat.le_of_ble_eq_true rfl), (Nat.le_of_ble_eq_true rfl), (Nat.le_of_ble_eq_true rfl)⟩ ?_
  show sh_cW _ _ (_, _, []) (sh_u2 (sh_u2 (sh_u2 (sh_u2 K 2 t 0) 9 t (K 14 q)) 13 q (-1)) 14 q 0) L _ _ _ _ _
  refine sh_cp (fun w Z k => sh_dload_n dc_Hall_await_61 rfl rfl k) ?_
  refine sh_cp (fun w Z k => sh_dconst0 dc_Hall_await_62 k) ?_
  refine sh_cp (fun w Z k => sh_dcmp dc_Hall_await_63 k) ?_
  refine sh_cp (fun w Z k => sh_if_ne (tgt := 79) dc_Hall_await_64 (by decide) (fun _ => k) (fun z => absurd z c5_64)) ?_
  refine sh_cp (fun w Z k => sh_aload dc_Hall_await_79 rfl k) ?_
  refine sh_cp (fun w Z k => sh_aload dc_Hall_await_81 rfl k) ?_
  refine sh_cp (fun w Z k => sh_iconst (v := 0) dc_Hall_await_83 (by decide) k) ?_
  refine sh_cp (fun w Z k => sh_aload_n dc_Hall_await_84 rfl rfl k) ?_
  refine sh_cget 0 4 dc_Hall_await_85 cw_o0 rfl (by decide) fl_Hall_35 rfl rfl rfl rfl ?_
  refine sh_ccall (fun w hw => sh_virtU (As := [.ref (A (10 + t)), .int 0, .double (L 11 0)]) dc_Hall_await_88 lm_Sync_enqueue wd_749 wd_750 (Or.inl wd_606) ⟨by decide, by decide⟩ (by decide +kernel) wd_611 wd_751 rfl rfl (Nat.le_of_ble_eq_true rfl) (hw _ _ (cw_oc (by omega) ((congrArg cw_cl (Eq.trans (sh_u2_row (by decide) _) (Eq.trans (sh_u2_row (by decide) _) (Eq.trans (sh_u2_row (by decide) _) (sh_u2_row (by decide) _))))).trans hk_s))) rfl) (cl_enq_Condition (s := s) (t := t) (m := 0) (a := L 11 0) (l := l) (by omega) (by omega) (cw_row_up (by decide) (cw_row_up (by decide) (cw_row_up (by decide) (cw_row_up (by decide) hr)))) hlen ((congrArg cw_cl (Eq.trans (sh_u2_row (by decide) _) (Eq.trans (sh_u2_row (by decide) _) (Eq.trans (sh_u2_row (by decide) _) (sh_u2_row (by decide) _))))).trans hk_s)) ⟨(Nat.le_of_ble_eq_true rfl), (Nat.le_of_ble_eq_true rfl), (Nat.le_of_ble_eq_true rfl), (Nat.le_of_ble_eq_true rfl)⟩ ?_
  show sh_cW _ _ (_, _, []) (sp_enq (sh_u2 (sh_u2 (sh_u2 (sh_u2 K 2 t 0) 9 t (K 14 q)) 13 q (-1)) 14 q 0) s t 0 l) (sh_u2 L 8 t (L 11 0)) _ _ _ _ _
  refine sh_cp (fun w Z k => sh_aload dc_Hall_await_91 rfl k) ?_
  refine sh_cp (fun w Z k => sh_aload_n dc_Hall_await_93 rfl rfl k) ?_
  refine sh_cget 0 4 dc_Hall_await_94 cw_o0 rfl (by decide) fl_Hall_35 rfl rfl rfl rfl ?_
  refine sh_ctd (show (sh_u2 L 8 t (L 11 0)) 11 0 = L 11 0 from (sh_u2_row (by decide) _)) ?_
  refine sh_cp (fun w Z k => sh_dload_n dc_Hall_await_97 rfl rfl k) ?_
  refine sh_ccall (fun w hw => sh_virt (As := [.double (L 11 0), .double y]) dc_Hall_await_98 lm_Worker_setEnd ln_Hall_123 wd_619 wd_17 rfl rfl (Nat.le_of_ble_eq_true rfl) (hw _ _ (cw_ow (by omega))) rfl) (ct_Worker_setEnd_1 (t := t) (a := L 11 0) (b := y) (by omega) c6_98) ⟨(Nat.le_of_ble_eq_true rfl), (Nat.le_of_ble_eq_true rfl), (Nat.le_of_ble_eq_true rfl), (Nat.le_of_ble_eq_true rfl)⟩ ?_
  show sh_cW _ _ (_, _, []) (sp_enq (sh_u2 (sh_u2 (sh_u2 (sh_u2 K 2 t 0) 9 t (K 14 q)) 13 q (-1)) 14 q 0) s t 0 l) (sh_u2 L 8 t (L 11 0)) _ _ _ _ _
  refine sh_cp (fun w Z k => sh_aload dc_Hall_await_101 rfl k) ?_
  refine sh_cp (fun w Z k => sh_aload_n dc_Hall_await_103 rfl rfl k) ?_
  refine sh_cget 0 4 dc_Hall_await_104 cw_o0 rfl (by decide) fl_Hall_35 rfl rfl rfl rfl ?_
  refine sh_ctd (show (sh_u2 L 8 t (L 11 0)) 11 0 = L 11 0 from (sh_u2_row (by decide) _)) ?_
  refine sh_ccall (fun w hw => sh_virtU (As := [.double (L 11 0)]) dc_Hall_await_107 lm_Gate_serve wd_745 wd_746 (Or.inl wd_747) ⟨by decide, by decide⟩ (by decide +kernel) wd_668 wd_748 rfl rfl (Nat.le_of_ble_eq_true rfl) (hw _ _ (cw_ol (by omega) ((congrArg cw_cl (Eq.trans (sp_enq_keep (by decide) _) (Eq.trans (sh_u2_row (by decide) _) (Eq.trans (sh_u2_row (by decide) _) (Eq.trans (sh_u2_row (by decide) _) (sh_u2_row (by decide) _)))))).trans hk_q))) rfl) (cl_serve_Lock (s := q) (p := L 11 0) (l := l107) (by omega) v7_107 v8_107 ((congrArg cw_cl (Eq.trans (sp_enq_keep (by decide) _) (Eq.trans (sh_u2_row (by decide) _) (Eq.trans (sh_u2_row (by decide) _) (Eq.trans (sh_u2_row (by decide) _) (sh_u2_row (by decide) _)))))).trans hk_q)) ⟨(Nat.le_of_ble_eq_true rfl), (Nat.le_of_ble_eq_true rfl), (Nat.le_of_ble_eq_true rfl), (Nat.le_of_ble_eq_true rfl)⟩ ?_
  show sh_cW _ _ (_, _, []) (sp_serve (L 11 0) q l107.length (sp_enq (sh_u2 (sh_u2 (sh_u2 (sh_u2 K 2 t 0) 9 t (K 14 q)) 13 q (-1)) 14 q 0) s t 0 l) (sh_u2 L 8 t (L 11 0)) l107).1 (sp_serve (L 11 0) q l107.length (sp_enq (sh_u2 (sh_u2 (sh_u2 (sh_u2 K 2 t 0) 9 t (K 14 q)) 13 q (-1)) 14 q 0) s t 0 l) (sh_u2 L 8 t (L 11 0)) l107).2 _ _ _ _ _
  refine sh_cp (fun w Z k => sh_aload dc_Hall_await_110 rfl k) ?_
  refine sh_cget (10 + t) 3 dc_Hall_await_112 (cw_ow (by omega)) rfl (by decide) fl_Hall_127 rfl rfl rfl rfl ?_
  exact sh_ce (fun w => sh_ireturn dc_Hall_await_115 rfl rfl (by decide) (by decide))
theorem ct_Hall_await_4 {A : Nat → Nat} {K : sh_II} {L : sh_DD} {t : Nat} {s : Nat} {y : UInt64} {q : Nat} {l : List Nat} {u13_19 : Nat} {l107 : List Nat} (ht : t < 6) (hs : s < 8) (hq : q < 8) (eq : K 16 s = nI q) (hl1 : ¬ (Op.cmpValue (FP.dcmp y (FP.i2d (-1))) .l) < 0) (hl2 : (Op.cmpValue (FP.dcmp y (FP.i2d 1000)) .g) ≤ 0) (hp : (K 5 t) = -1) (hr : cw_row K s l) (hlen : l.length < 6) (hk_s : cw_cl (K 12 s) = 8) (hk_q : cw_cl (K 12 q) = 4) (hu13_19 : u13_19 < 6) (c1_19 : (K 13 q) = nI u13_19) (c2_19 : u13_19 = t) (v3_26 : narrow .boolean (.int (K 2 t)) = .int (K 2 t)) (c4_29 : (K 2 t) = 0) (c5_64 : ¬ (Op.cmpValue (FP.dcmp y FP.dconst0) .l) = 0) (c6_98 : ¬ (Op.cmpValue (FP.dcmp y FP.dconst0) .l) ≤ 0) (v7_98 : vf_n64 (FP.dadd (L 11 0) y)) (v8_107 : cw_row (sh_u2 (sp_enq (sh_u2 (sh_u2 (sh_u2 (sh_u2 K 2 t 0) 9 t (K 14 q)) 13 q (-1)) 14 q 0) s t 0 l) 26 t 1) q l107) (v9_107 : sp_svok (L 11 0) q l107.length (sh_u2 (sp_enq (sh_u2 (sh_u2 (sh_u2 (sh_u2 K 2 t 0) 9 t (K 14 q)) 13 q (-1)) 14 q 0) s t 0 l) 26 t 1) (sh_u2 (sh_u2 L 8 t (L 11 0)) 7 t (FP.dadd (L 11 0) y)) l107) : sh_cM A md_Hall_await [.ref (A 0), .int (nI t), .int (nI s), .double y] K L (.inl (some (.int ((sp_serve (L 11 0) q l107.length (sh_u2 (sp_enq (sh_u2 (sh_u2 (sh_u2 (sh_u2 K 2 t 0) 9 t (K 14 q)) 13 q (-1)) 14 q 0) s t 0 l) 26 t 1) (sh_u2 (sh_u2 L 8 t (L 11 0)) 7 t (FP.dadd (L 11 0) y)) l107).1 4 t)))) (sp_serve (L 11 0) q l107.length (sh_u2 (sp_enq (sh_u2 (sh_u2 (sh_u2 (sh_u2 K 2 t 0) 9 t (K 14 q)) 13 q (-1)) 14 q 0) s t 0 l) 26 t 1) (sh_u2 (sh_u2 L 8 t (L 11 0)) 7 t (FP.dadd (L 11 0) y)) l107).1 (sp_serve (L 11 0) q l107.length (sh_u2 (sp_enq (sh_u2 (sh_u2 (sh_u2 (sh_u2 K 2 t 0) 9 t (K 14 q)) 13 q (-1)) 14 q 0) s t 0 l) 26 t 1) (sh_u2 (sh_u2 L 8 t (L 11 0)) 7 t (FP.dadd (L 11 0) y)) l107).2 := by
  refine sh_cp (fun w Z k => sh_aload_n dc_Hall_await_0 rfl rfl k) ?_
  refine sh_cp (fun w Z k => sh_iload_n dc_Hall_await_1 rfl rfl k) ?_
  refine sh_ccall (fun w hw => sh_virt (As := [.int (nI t)]) dc_Hall_await_2 lm_Hall_workerAt ln_Hall_62 wd_448 wd_3 rfl rfl (Nat.le_of_ble_eq_true rfl) (hw _ _ cw_o0) rfl) (ct_Hall_workerAt_1 (t := t) (by omega)) ⟨(Nat.le_of_ble_eq_true rfl), (Nat.le_of_ble_eq_true rfl), (Nat.le_of_ble_eq_true rfl), (Nat.le_of_ble_eq_true rfl)⟩ ?_
  show sh_cW _ _ (_, _, [.ref (A (10 + t))]) K L _ _ _ _ _
  refine sh_cp (fun w Z k => sh_astore dc_Hall_await_5 (by decide) k) ?_
  refine sh_cp (fun w Z k => sh_dload_n dc_Hall_await_7 rfl rfl k) ?_
  refine sh_cp (fun w Z k => sh_iconst (v := (-1)) dc_Hall_await_8 (by decide) k) ?_
  refine sh_cp (fun w Z k => sh_sipush (v := 1000) dc_Hall_await_9 (by decide) k) ?_
  refine sh_ccall (fun w hw => sh_stat (As := [.double y, .int (-1), .int 1000]) dc_Hall_await_12 lm_Hall_checkAmount ln_Hall_66 wd_451 wd_49 rfl rfl (Nat.le_of_ble_eq_true rfl)) (ct_Hall_checkAmount_2 (x := y) (lo := (-1)) (hi := 1000) hl1 hl2) ⟨(Nat.le_of_ble_eq_true rfl), (Nat.le_of_ble_eq_true rfl), (Nat.le_of_ble_eq_true rfl), (Nat.le_of_ble_eq_true rfl)⟩ ?_
  show sh_cW _ _ (_, _, []) K L _ _ _ _ _
  refine sh_cp (fun w Z k => sh_aload_n dc_Hall_await_15 rfl rfl k) ?_
  refine sh_cp (fun w Z k => sh_aload dc_Hall_await_16 rfl k) ?_
  refine sh_cp (fun w Z k => sh_iload_n dc_Hall_await_18 rfl rfl k) ?_
  refine sh_ccall (fun w hw => sh_virt (As := [.ref (A (10 + t)), .int (nI s)]) dc_Hall_await_19 lm_Hall_conditionFor ln_Hall_147 wd_733 wd_24 rfl rfl (Nat.le_of_ble_eq_true rfl) (hw _ _ cw_o0) rfl) (ct_Hall_conditionFor_Condition_2 (t := t) (s := s) (q := q) (u13_29 := u13_19) (by omega) (by omega) (by omega) eq hk_s hk_q hp (by omega) c1_19 c2_19) ⟨(Nat.le_of_ble_eq_true rfl), (Nat.le_of_ble_eq_true rfl), (Nat.le_of_ble_eq_true rfl), (Nat.le_of_ble_eq_true rfl)⟩ ?_
  show sh_cW _ _ (_, _, [.ref (A (20 + s))]) K L _ _ _ _ _
  refine sh_cp (fun w Z k => sh_astore dc_Hall_await_22 (by decide) k) ?_
  refine sh_cp (fun w Z k => sh_aload dc_Hall_await_24 rfl k) ?_
  refine sh_ccall (fun w hw => sh_virt (As := []) dc_Hall_await_26 lm_Worker_dropFlag ln_Hall_85 wd_492 wd_5 rfl rfl (Nat.le_of_ble_eq_true rfl) (hw _ _ (cw_ow (by omega))) rfl) (ct_Worker_dropFlag_1 (t := t) (by omega) v3_26) ⟨(Nat.le_of_ble_eq_true rfl), (Nat.le_of_ble_eq_true rfl), (Nat.le_of_ble_eq_true rfl), (Nat.le_of_ble_eq_true rfl)⟩ ?_
  show sh_cW _ _ (_, _, [.int (K 2 t)]) (sh_u2 K 2 t 0) L _ _ _ _ _
  refine sh_cp (fun w Z k => sh_if_eq (tgt := 39) dc_Hall_await_29 (by decide) (fun _ => k) (fun z => absurd c4_29 z)) ?_
  refine sh_cp (fun w Z k => sh_aload dc_Hall_await_39 rfl k) ?_
  refine sh_cget (20 + s) 4 dc_Hall_await_41 (cw_oc (by omega) ((congrArg cw_cl (sh_u2_row (by decide) _)).trans hk_s)) rfl (by decide) fl_Hall_151 rfl rfl rfl rfl ?_
  refine sh_ctv (cw_rf_n (Eq.trans (sh_u2_row (by decide) _) eq) (by omega)) ?_
  refine sh_cp (fun w Z k => sh_astore dc_Hall_await_44 (by decide) k) ?_
  refine sh_cp (fun w Z k => sh_aload dc_Hall_await_46 rfl k) ?_
  refine sh_cp (fun w Z k => sh_aload dc_Hall_await_48 rfl k) ?_
  refine sh_cget (20 + q) 5 dc_Hall_await_50 (cw_ol (by omega) ((congrArg cw_cl (sh_u2_row (by decide) _)).trans hk_q)) rfl (by decide) fl_Hall_157 rfl rfl rfl rfl ?_
  refine sh_cti (show (sh_u2 K 2 t 0) 14 q = K 14 q from (sh_u2_row (by decide) _)) ?_
  refine sh_cput (K1 := (sh_u2 (sh_u2 K 2 t 0) 9 t (K 14 q))) (L1 := L) (10 + t) 9 dc_Hall_await_53 (cw_ow (by omega)) rfl (by decide) fl_Hall_113 rfl rfl rfl rfl pd_I rfl rfl (cq_Worker_9 (by omega)) (fun i hi => cw_upI (by decide) hi) ?_
  refine sh_cp (fun w Z k => sh_aload dc_Hall_await_56 rfl k) ?_
  refine sh_ccall (fun w hw => sh_virt (As := []) dc_Hall_await_58 lm_Lock_free ln_Hall_162 wd_644 wd_18 rfl rfl (Nat.le_of_ble_eq_true rfl) (hw _ _ (cw_ol (by omega) ((congrArg cw_cl (Eq.trans (sh_u2_row (by decide) _) (sh_u2_row (by decide) _))).trans hk_q))) rfl) (ct_Lock_free_1 (s := q) (by omega) ((congrArg cw_cl (Eq.trans (sh_u2_row (by decide) _) (sh_u2_row (by decide) _))).trans hk_q)) ⟨(Nat.le_of_ble_eq_true rfl), (Nat.le_of_ble_eq_true rfl), (Nat.le_of_ble_eq_true rfl), (Nat.le_of_ble_eq_true rfl)⟩ ?_
  show sh_cW _ _ (_, _, []) (sh_u2 (sh_u2 (sh_u2 (sh_u2 K 2 t 0) 9 t (K 14 q)) 13 q (-1)) 14 q 0) L _ _ _ _ _
  refine sh_cp (fun w Z k => sh_dload_n dc_Hall_await_61 rfl rfl k) ?_
  refine sh_cp (fun w Z k => sh_dconst0 dc_Hall_await_62 k) ?_
  refine sh_cp (fun w Z k => sh_dcmp dc_Hall_await_63 k) ?_
  refine sh_cp (fun w Z k => sh_if_ne (tgt := 79) dc_Hall_await_64 (by decide) (fun _ => k) (fun z => absurd z c5_64)) ?_
  refine sh_cp (fun w Z k => sh_aload dc_Hall_await_79 rfl k) ?_
  refine sh_cp (fun w Z k => sh_aload dc_Hall_await_81 rfl k) ?_
  refine sh_cp (fun w Z k => sh_iconst (v := 0) dc_Hall_await_83 (by decide) k) ?_
  refine sh_cp (fun w Z k => sh_aload_n dc_Hall_await_84 rfl rfl k) ?_
  refine sh_cget 0 4 dc_Hall_await_85 cw_o0 rfl (by decide) fl_Hall_35 rfl rfl rfl rfl ?_
  refine sh_ccall (fun w hw => sh_virtU (As := [.ref (A (10 + t)), .int 0, .double (L 11 0)]) dc_Hall_await_88 lm_Sync_enqueue wd_749 wd_750 (Or.inl wd_606) ⟨by decide, by decide⟩ (by decide +kernel) wd_611 wd_751 rfl rfl (Nat.le_of_ble_eq_true rfl) (hw _ _ (cw_oc (by omega) ((congrArg cw_cl (Eq.trans (sh_u2_row (by decide) _) (Eq.trans (sh_u2_row (by decide) _) (Eq.trans (sh_u2_row (by decide) _) (sh_u2_row (by decide) _))))).trans hk_s))) rfl) (cl_enq_Condition (s := s) (t := t) (m := 0) (a := L 11 0) (l := l) (by omega) (by omega) (cw_row_up (by decide) (cw_row_up (by decide) (cw_row_up (by decide) (cw_row_up (by decide) hr)))) hlen ((congrArg cw_cl (Eq.trans (sh_u2_row (by decide) _) (Eq.trans (sh_u2_row (by decide) _) (Eq.trans (sh_u2_row (by decide) _) (sh_u2_row (by decide) _))))).trans hk_s)) ⟨(Nat.le_of_ble_eq_true rfl), (Nat.le_of_ble_eq_true rfl), (Nat.le_of_ble_eq_true rfl), (Nat.le_of_ble_eq_true rfl)⟩ ?_
  show sh_cW _ _ (_, _, []) (sp_enq (sh_u2 (sh_u2 (sh_u2 (sh_u2 K 2 t 0) 9 t (K 14 q)) 13 q (-1)) 14 q 0) s t 0 l) (sh_u2 L 8 t (L 11 0)) _ _ _ _ _
  refine sh_cp (fun w Z k => sh_aload dc_Hall_await_91 rfl k) ?_
  refine sh_cp (fun w Z k => sh_aload_n dc_Hall_await_93 rfl rfl k) ?_
  refine sh_cget 0 4 dc_Hall_await_94 cw_o0 rfl (by decide) fl_Hall_35 rfl rfl rfl rfl ?_
  refine sh_ctd (show (sh_u2 L 8 t (L 11 0)) 11 0 = L 11 0 from (sh_u2_row (by decide) _)) ?_
  refine sh_cp (fun w Z k => sh_dload_n dc_Hall_await_97 rfl rfl k) ?_
  refine sh_ccall (fun w hw => sh_virt (As := [.double (L 11 0), .double y]) dc_Hall_await_98 lm_Worker_setEnd ln_Hall_123 wd_619 wd_17 rfl rfl (Nat.le_of_ble_eq_true rfl) (hw _ _ (cw_ow (by omega))) rfl) (ct_Worker_setEnd_2 (t := t) (a := L 11 0) (b := y) (by omega) c6_98 v7_98) ⟨(Nat.le_of_ble_eq_true rfl), (Nat.le_of_ble_eq_true rfl), (Nat.le_of_ble_eq_true rfl), (Nat.le_of_ble_eq_true rfl)⟩ ?_
  show sh_cW _ _ (_, _, []) (sh_u2 (sp_enq (sh_u2 (sh_u2 (sh_u2 (sh_u2 K 2 t 0) 9 t (K 14 q)) 13 q (-1)) 14 q 0) s t 0 l) 26 t 1) (sh_u2 (sh_u2 L 8 t (L 11 0)) 7 t (FP.dadd (L 11 0) y)) _ _ _ _ _
  refine sh_cp (fun w Z k => sh_aload dc_Hall_await_101 rfl k) ?_
  refine sh_cp (fun w Z k => sh_aload_n dc_Hall_await_103 rfl rfl k) ?_
  refine sh_cget 0 4 dc_Hall_await_104 cw_o0 rfl (by decide) fl_Hall_35 rfl rfl rfl rfl ?_
  refine sh_ctd (show (sh_u2 (sh_u2 L 8 t (L 11 0)) 7 t (FP.dadd (L 11 0) y)) 11 0 = L 11 0 from (Eq.trans (sh_u2_row (by decide) _) (sh_u2_row (by decide) _))) ?_
  refine sh_ccall (fun w hw => sh_virtU (As := [.double (L 11 0)]) dc_Hall_await_107 lm_Gate_serve wd_745 wd_746 (Or.inl wd_747) ⟨by decide, by decide⟩ (by decide +kernel) wd_668 wd_748 rfl rfl (Nat.le_of_ble_eq_true rfl) (hw _ _ (cw_ol (by omega) ((congrArg cw_cl (Eq.trans (sh_u2_row (by decide) _) (Eq.trans (sp_enq_keep (by decide) _) (Eq.trans (sh_u2_row (by decide) _) (Eq.trans (sh_u2_row (by decide) _) (Eq.trans (sh_u2_row (by decide) _) (sh_u2_row (by decide) _))))))).trans hk_q))) rfl) (cl_serve_Lock (s := q) (p := L 11 0) (l := l107) (by omega) v8_107 v9_107 ((congrArg cw_cl (Eq.trans (sh_u2_row (by decide) _) (Eq.trans (sp_enq_keep (by decide) _) (Eq.trans (sh_u2_row (by decide) _) (Eq.trans (sh_u2_row (by decide) _) (Eq.trans (sh_u2_row (by decide) _) (sh_u2_row (by decide) _))))))).trans hk_q)) ⟨(Nat.le_of_ble_eq_true rfl), (Nat.le_of_ble_eq_true rfl), (Nat.le_of_ble_eq_true rfl), (Nat.le_of_ble_eq_true rfl)⟩ ?_
  show sh_cW _ _ (_, _, []) (sp_serve (L 11 0) q l107.length (sh_u2 (sp_enq (sh_u2 (sh_u2 (sh_u2 (sh_u2 K 2 t 0) 9 t (K 14 q)) 13 q (-1)) 14 q 0) s t 0 l) 26 t 1) (sh_u2 (sh_u2 L 8 t (L 11 0)) 7 t (FP.dadd (L 11 0) y)) l107).1 (sp_serve (L 11 0) q l107.length (sh_u2 (sp_enq (sh_u2 (sh_u2 (sh_u2 (sh_u2 K 2 t 0) 9 t (K 14 q)) 13 q (-1)) 14 q 0) s t 0 l) 26 t 1) (sh_u2 (sh_u2 L 8 t (L 11 0)) 7 t (FP.dadd (L 11 0) y)) l107).2 _ _ _ _ _
  refine sh_cp (fun w Z k => sh_aload dc_Hall_await_110 rfl k) ?_
  refine sh_cget (10 + t) 3 dc_Hall_await_112 (cw_ow (by omega)) rfl (by decide) fl_Hall_127 rfl rfl rfl rfl ?_
  exact sh_ce (fun w => sh_ireturn dc_Hall_await_115 rfl rfl (by decide) (by decide))
theorem ct_Hall_await_5 {A : Nat → Nat} {K : sh_II} {L : sh_DD} {t : Nat} {s : Nat} {y : UInt64} {q : Nat} {l : List Nat} {u13_19 : Nat} (ht : t < 6) (hs : s < 8) (hq : q < 8) (eq : K 16 s = nI q) (hl1 : ¬ (Op.cmpValue (FP.dcmp y (FP.i2d (-1))) .l) < 0) (hl2 : (Op.cmpValue (FP.dcmp y (FP.i2d 1000)) .g) ≤ 0) (hp : (K 5 t) = -1) (hr : cw_row K s l) (hlen : l.length < 6) (hk_s : cw_cl (K 12 s) = 8) (hk_q : cw_cl (K 12 q) = 4) (hu13_19 : u13_19 < 6) (c1_19 : (K 13 q) = nI u13_19) (c2_19 : u13_19 = t) (v3_26 : narrow .boolean (.int (K 2 t)) = .int (K 2 t)) (c4_29 : ¬ (K 2 t) = 0) : sh_cM A md_Hall_await [.ref (A 0), .int (nI t), .int (nI s), .double y] K L (.inl (some (.int 3))) (sh_u2 (sh_u2 (sh_u2 K 2 t 0) 4 t 3) 27 t 0) L := by
  refine sh_cp (fun w Z k => sh_aload_n dc_Hall_await_0 rfl rfl k) ?_
  refine sh_cp (fun w Z k => sh_iload_n dc_Hall_await_1 rfl rfl k) ?_
  refine sh_ccall (fun w hw => sh_virt (As := [.int (nI t)]) dc_Hall_await_2 lm_Hall_workerAt ln_Hall_62 wd_448 wd_3 rfl rfl (Nat.le_of_ble_eq_true rfl) (hw _ _ cw_o0) rfl) (ct_Hall_workerAt_1 (t := t) (by omega)) ⟨(Nat.le_of_ble_eq_true rfl), (Nat.le_of_ble_eq_true rfl), (Nat.le_of_ble_eq_true rfl), (Nat.le_of_ble_eq_true rfl)⟩ ?_
  show sh_cW _ _ (_, _, [.ref (A (10 + t))]) K L _ _ _ _ _
  refine sh_cp (fun w Z k => sh_astore dc_Hall_await_5 (by decide) k) ?_
  refine sh_cp (fun w Z k => sh_dload_n dc_Hall_await_7 rfl rfl k) ?_
  refine sh_cp (fun w Z k => sh_iconst (v := (-1)) dc_Hall_await_8 (by decide) k) ?_
  refine sh_cp (fun w Z k => sh_sipush (v := 1000) dc_Hall_await_9 (by decide) k) ?_
  refine sh_ccall (fun w hw => sh_stat (As := [.double y, .int (-1), .int 1000]) dc_Hall_await_12 lm_Hall_checkAmount ln_Hall_66 wd_451 wd_49 rfl rfl (Nat.le_of_ble_eq_true rfl)) (ct_Hall_checkAmount_2 (x := y) (lo := (-1)) (hi := 1000) hl1 hl2) ⟨(Nat.le_of_ble_eq_true rfl), (Nat.le_of_ble_eq_true rfl), (Nat.le_of_ble_eq_true rfl), (Nat.le_of_ble_eq_true rfl)⟩ ?_
  show sh_cW _ _ (_, _, []) K L _ _ _ _ _
  refine sh_cp (fun w Z k => sh_aload_n dc_Hall_await_15 rfl rfl k) ?_
  refine sh_cp (fun w Z k => sh_aload dc_Hall_await_16 rfl k) ?_
  refine sh_cp (fun w Z k => sh_iload_n dc_Hall_await_18 rfl rfl k) ?_
  refine sh_ccall (fun w hw => sh_virt (As := [.ref (A (10 + t)), .int (nI s)]) dc_Hall_await_19 lm_Hall_conditionFor ln_Hall_147 wd_733 wd_24 rfl rfl (Nat.le_of_ble_eq_true rfl) (hw _ _ cw_o0) rfl) (ct_Hall_conditionFor_Condition_2 (t := t) (s := s) (q := q) (u13_29 := u13_19) (by omega) (by omega) (by omega) eq hk_s hk_q hp (by omega) c1_19 c2_19) ⟨(Nat.le_of_ble_eq_true rfl), (Nat.le_of_ble_eq_true rfl), (Nat.le_of_ble_eq_true rfl), (Nat.le_of_ble_eq_true rfl)⟩ ?_
  show sh_cW _ _ (_, _, [.ref (A (20 + s))]) K L _ _ _ _ _
  refine sh_cp (fun w Z k => sh_astore dc_Hall_await_22 (by decide) k) ?_
  refine sh_cp (fun w Z k => sh_aload dc_Hall_await_24 rfl k) ?_
  refine sh_ccall (fun w hw => sh_virt (As := []) dc_Hall_await_26 lm_Worker_dropFlag ln_Hall_85 wd_492 wd_5 rfl rfl (Nat.le_of_ble_eq_true rfl) (hw _ _ (cw_ow (by omega))) rfl) (ct_Worker_dropFlag_1 (t := t) (by omega) v3_26) ⟨(Nat.le_of_ble_eq_true rfl), (Nat.le_of_ble_eq_true rfl), (Nat.le_of_ble_eq_true rfl), (Nat.le_of_ble_eq_true rfl)⟩ ?_
  show sh_cW _ _ (_, _, [.int (K 2 t)]) (sh_u2 K 2 t 0) L _ _ _ _ _
  refine sh_cp (fun w Z k => sh_if_eq (tgt := 39) dc_Hall_await_29 (by decide) (fun z => absurd z c4_29) (fun _ => k)) ?_
  refine sh_cp (fun w Z k => sh_aload dc_Hall_await_32 rfl k) ?_
  refine sh_cp (fun w Z k => sh_iconst (v := 3) dc_Hall_await_34 (by decide) k) ?_
  refine sh_ccall (fun w hw => sh_virt (As := [.int 3]) dc_Hall_await_35 lm_Worker_finish ln_Hall_89 wd_496 wd_6 rfl rfl (Nat.le_of_ble_eq_true rfl) (hw _ _ (cw_ow (by omega))) rfl) (ct_Worker_finish_1 (t := t) (x := 3) (by omega)) ⟨(Nat.le_of_ble_eq_true rfl), (Nat.le_of_ble_eq_true rfl), (Nat.le_of_ble_eq_true rfl), (Nat.le_of_ble_eq_true rfl)⟩ ?_
  show sh_cW _ _ (_, _, [.int 3]) (sh_u2 (sh_u2 (sh_u2 K 2 t 0) 4 t 3) 27 t 0) L _ _ _ _ _
  exact sh_ce (fun w => sh_ireturn dc_Hall_await_38 rfl rfl (by decide) (by decide))
theorem ct_Hall_await_6 {A : Nat → Nat} {K : sh_II} {L : sh_DD} {t : Nat} {s : Nat} {y : UInt64} {q : Nat} {l : List Nat} {u13_19 : Nat} (ht : t < 6) (hs : s < 8) (hq : q < 8) (eq : K 16 s = nI q) (hl1 : ¬ (Op.cmpValue (FP.dcmp y (FP.i2d (-1))) .l) < 0) (hl2 : (Op.cmpValue (FP.dcmp y (FP.i2d 1000)) .g) ≤ 0) (hp : (K 5 t) = -1) (hr : cw_row K s l) (hlen : l.length < 6) (hk_s : cw_cl (K 12 s) = 8) (hk_q : cw_cl (K 12 q) = 4) (hu13_19 : u13_19 < 6) (c1_19 : (K 13 q) = nI u13_19) (c2_19 : ¬ u13_19 = t) : sh_cM A md_Hall_await [.ref (A 0), .int (nI t), .int (nI s), .double y] K L (.inr 3) K L := by
  refine sh_cp (fun w Z k => sh_aload_n dc_Hall_await_0 rfl rfl k) ?_
  refine sh_cp (fun w Z k => sh_iload_n dc_Hall_await_1 rfl rfl k) ?_
  refine sh_ccall (fun w hw => sh_virt (As := [.int (nI t)]) dc_Hall_await_2 lm_Hall_workerAt ln_Hall_62 wd_448 wd_3 rfl rfl (Nat.le_of_ble_eq_true rfl) (hw _ _ cw_o0) rfl) (ct_Hall_workerAt_1 (t := t) (by omega)) ⟨(Nat.le_of_ble_eq_true rfl), (Nat.le_of_ble_eq_true rfl), (Nat.le_of_ble_eq_true rfl), (Nat.le_of_ble_eq_true rfl)⟩ ?_
  show sh_cW _ _ (_, _, [.ref (A (10 + t))]) K L _ _ _ _ _
  refine sh_cp (fun w Z k => sh_astore dc_Hall_await_5 (by decide) k) ?_
  refine sh_cp (fun w Z k => sh_dload_n dc_Hall_await_7 rfl rfl k) ?_
  refine sh_cp (fun w Z k => sh_iconst (v := (-1)) dc_Hall_await_8 (by decide) k) ?_
  refine sh_cp (fun w Z k => sh_sipush (v := 1000) dc_Hall_await_9 (by decide) k) ?_
  refine sh_ccall (fun w hw => sh_stat (As := [.double y, .int (-1), .int 1000]) dc_Hall_await_12 lm_Hall_checkAmount ln_Hall_66 wd_451 wd_49 rfl rfl (Nat.le_of_ble_eq_true rfl)) (ct_Hall_checkAmount_2 (x := y) (lo := (-1)) (hi := 1000) hl1 hl2) ⟨(Nat.le_of_ble_eq_true rfl), (Nat.le_of_ble_eq_true rfl), (Nat.le_of_ble_eq_true rfl), (Nat.le_of_ble_eq_true rfl)⟩ ?_
  show sh_cW _ _ (_, _, []) K L _ _ _ _ _
  refine sh_cp (fun w Z k => sh_aload_n dc_Hall_await_15 rfl rfl k) ?_
  refine sh_cp (fun w Z k => sh_aload dc_Hall_await_16 rfl k) ?_
  refine sh_cp (fun w Z k => sh_iload_n dc_Hall_await_18 rfl rfl k) ?_
  exact sh_ccallT (fun w hw => sh_virt (As := [.ref (A (10 + t)), .int (nI s)]) dc_Hall_await_19 lm_Hall_conditionFor ln_Hall_147 wd_733 wd_24 rfl rfl (Nat.le_of_ble_eq_true rfl) (hw _ _ cw_o0) rfl) (ct_Hall_conditionFor_Condition_3 (t := t) (s := s) (q := q) (u13_29 := u13_19) (by omega) (by omega) (by omega) eq hk_s hk_q hp (by omega) c1_19 c2_19) ⟨(Nat.le_of_ble_eq_true rfl), (Nat.le_of_ble_eq_true rfl), (Nat.le_of_ble_eq_true rfl), (Nat.le_of_ble_eq_true rfl)⟩ rfl
theorem ct_Hall_signal_x_1 {A : Nat → Nat} {K : sh_II} {L : sh_DD} {x : Int32} {o : Int32} {a : Int32} (c0_2 : x < 0) : sh_cM A md_Hall_signal [.ref (A 0), .int x, .int o, .int a] K L (.inr 1) K L := by
  refine sh_cp (fun w Z k => sh_aload_n dc_Hall_signal_0 rfl rfl k) ?_
  refine sh_cp (fun w Z k => sh_iload_n dc_Hall_signal_1 rfl rfl k) ?_
  exact sh_ccallT (fun w hw => sh_virt (As := [.int x]) dc_Hall_signal_2 lm_Hall_workerAt ln_Hall_62 wd_448 wd_3 rfl rfl (Nat.le_of_ble_eq_true rfl) (hw _ _ cw_o0) rfl) (ct_Hall_workerAt_x_1 (x := x) c0_2) ⟨(Nat.le_of_ble_eq_true rfl), (Nat.le_of_ble_eq_true rfl), (Nat.le_of_ble_eq_true rfl), (Nat.le_of_ble_eq_true rfl)⟩ rfl
theorem ct_Hall_signal_x_2 {A : Nat → Nat} {K : sh_II} {L : sh_DD} {x : Int32} {o : Int32} {a : Int32} (c0_2 : ¬ x < 0) (c1_2 : ¬ x ≤ 5) : sh_cM A md_Hall_signal [.ref (A 0), .int x, .int o, .int a] K L (.inr 1) K L := by
  refine sh_cp (fun w Z k => sh_aload_n dc_Hall_signal_0 rfl rfl k) ?_
  refine sh_cp (fun w Z k => sh_iload_n dc_Hall_signal_1 rfl rfl k) ?_
  exact sh_ccallT (fun w hw => sh_virt (As := [.int x]) dc_Hall_signal_2 lm_Hall_workerAt ln_Hall_62 wd_448 wd_3 rfl rfl (Nat.le_of_ble_eq_true rfl) (hw _ _ cw_o0) rfl) (ct_Hall_workerAt_x_2 (x := x) c0_2 c1_2) ⟨(Nat.le_of_ble_eq_true rfl), (Nat.le_of_ble_eq_true rfl), (Nat.le_of_ble_eq_true rfl), (Nat.le_of_ble_eq_true rfl)⟩ rfl
theorem ct_Hall_signal_t_1 {A : Nat → Nat} {K : sh_II} {L : sh_DD} {t : Nat} {x : Int32} {a : Int32} (ht : t < 6) (c0_11 : x < 0) : sh_cM A md_Hall_signal [.ref (A 0), .int (nI t), .int x, .int a] K L (.inr 1) K L := by
  refine sh_cp (fun w Z k => sh_aload_n dc_Hall_signal_0 rfl rfl k) ?_
  refine sh_cp (fun w Z k => sh_iload_n dc_Hall_signal_1 rfl rfl k) ?_
  refine sh_ccall (fun w hw => sh_virt (As := [.int (nI t)]) dc_Hall_signal_2 lm_Hall_workerAt ln_Hall_62 wd_448 wd_3 rfl rfl (Nat.le_of_ble_eq_true rfl) (hw _ _ cw_o0) rfl) (ct_Hall_workerAt_1 (t := t) (by omega)) ⟨(Nat.le_of_ble_eq_true rfl), (Nat.le_of_ble_eq_true rfl), (Nat.le_of_ble_eq_true rfl), (Nat.le_of_ble_eq_true rfl)⟩ ?_
  show sh_cW _ _ (_, _, [.ref (A (10 + t))]) K L _ _ _ _ _
  refine sh_cp (fun w Z k => sh_astore dc_Hall_signal_5 (by decide) k) ?_
  refine sh_cp (fun w Z k => sh_aload_n dc_Hall_signal_7 rfl rfl k) ?_
  refine sh_cp (fun w Z k => sh_aload dc_Hall_signal_8 rfl k) ?_
  refine sh_cp (fun w Z k => sh_iload_n dc_Hall_signal_10 rfl rfl k) ?_
  exact sh_ccallT (fun w hw => sh_virt (As := [.ref (A (10 + t)), .int x]) dc_Hall_signal_11 lm_Hall_conditionFor ln_Hall_147 wd_733 wd_24 rfl rfl (Nat.le_of_ble_eq_true rfl) (hw _ _ cw_o0) rfl) (ct_Hall_conditionFor_x_1 (t := t) (x := x) (by omega) c0_11) ⟨(Nat.le_of_ble_eq_true rfl), (Nat.le_of_ble_eq_true rfl), (Nat.le_of_ble_eq_true rfl), (Nat.le_of_ble_eq_true rfl)⟩ rfl
theorem ct_Hall_signal_t_2 {A : Nat → Nat} {K : sh_II} {L : sh_DD} {t : Nat} {x : Int32} {a : Int32} (ht : t < 6) (c0_11 : ¬ x < 0) (c1_11 : ¬ x ≤ 7) : sh_cM A md_Hall_signal [.ref (A 0), .int (nI t), .int x, .int a] K L (.inr 1) K L := by
  refine sh_cp (fun w Z k => sh_aload_n dc_Hall_signal_0 rfl rfl k) ?_
  refine sh_cp (fun w Z k => sh_iload_n dc_Hall_signal_1 rfl rfl k) ?_
  refine sh_ccall (fun w hw => sh_virt (As := [.int (nI t)]) dc_Hall_signal_2 lm_Hall_workerAt ln_Hall_62 wd_448 wd_3 rfl rfl (Nat.le_of_ble_eq_true rfl) (hw _ _ cw_o0) rfl) (ct_Hall_workerAt_1 (t := t) (by omega)) ⟨(Nat.le_of_ble_eq_true rfl), (Nat.le_of_ble_eq_true rfl), (Nat.le_of_ble_eq_true rfl), (Nat.le_of_ble_eq_true rfl)⟩ ?_
  show sh_cW _ _ (_, _, [.ref (A (10 + t))]) K L _ _ _ _ _
  refine sh_cp (fun w Z k => sh_astore dc_Hall_signal_5 (by decide) k) ?_
  refine sh_cp (fun w Z k => sh_aload_n dc_Hall_signal_7 rfl rfl k) ?_
  refine sh_cp (fun w Z k => sh_aload dc_Hall_signal_8 rfl k) ?_
  refine sh_cp (fun w Z k => sh_iload_n dc_Hall_signal_10 rfl rfl k) ?_
  exact sh_ccallT (fun w hw => sh_virt (As := [.ref (A (10 + t)), .int x]) dc_Hall_signal_11 lm_Hall_conditionFor ln_Hall_147 wd_733 wd_24 rfl rfl (Nat.le_of_ble_eq_true rfl) (hw _ _ cw_o0) rfl) (ct_Hall_conditionFor_x_2 (t := t) (x := x) (by omega) c0_11 c1_11) ⟨(Nat.le_of_ble_eq_true rfl), (Nat.le_of_ble_eq_true rfl), (Nat.le_of_ble_eq_true rfl), (Nat.le_of_ble_eq_true rfl)⟩ rfl
theorem ct_Hall_signal_none_1 {A : Nat → Nat} {K : sh_II} {L : sh_DD} {t : Nat} {s : Nat} {a : Int32} (ht : t < 6) (hs : s < 8) (hz0 : cw_cl (K 12 s) = 0) : sh_cM A md_Hall_signal [.ref (A 0), .int (nI t), .int (nI s), .int a] K L (.inr 2) K L := by
  refine sh_cp (fun w Z k => sh_aload_n dc_Hall_signal_0 rfl rfl k) ?_
  refine sh_cp (fun w Z k => sh_iload_n dc_Hall_signal_1 rfl rfl k) ?_
  refine sh_ccall (fun w hw => sh_virt (As := [.int (nI t)]) dc_Hall_signal_2 lm_Hall_workerAt ln_Hall_62 wd_448 wd_3 rfl rfl (Nat.le_of_ble_eq_true rfl) (hw _ _ cw_o0) rfl) (ct_Hall_workerAt_1 (t := t) (by omega)) ⟨(Nat.le_of_ble_eq_true rfl), (Nat.le_of_ble_eq_true rfl), (Nat.le_of_ble_eq_true rfl), (Nat.le_of_ble_eq_true rfl)⟩ ?_
  show sh_cW _ _ (_, _, [.ref (A (10 + t))]) K L _ _ _ _ _
  refine sh_cp (fun w Z k => sh_astore dc_Hall_signal_5 (by decide) k) ?_
  refine sh_cp (fun w Z k => sh_aload_n dc_Hall_signal_7 rfl rfl k) ?_
  refine sh_cp (fun w Z k => sh_aload dc_Hall_signal_8 rfl k) ?_
  refine sh_cp (fun w Z k => sh_iload_n dc_Hall_signal_10 rfl rfl k) ?_
  exact sh_ccallT (fun w hw => sh_virt (As := [.ref (A (10 + t)), .int (nI s)]) dc_Hall_signal_11 lm_Hall_conditionFor ln_Hall_147 wd_733 wd_24 rfl rfl (Nat.le_of_ble_eq_true rfl) (hw _ _ cw_o0) rfl) (ct_Hall_conditionFor_none_1 (t := t) (s := s) (by omega) (by omega) hz0) ⟨(Nat.le_of_ble_eq_true rfl), (Nat.le_of_ble_eq_true rfl), (Nat.le_of_ble_eq_true rfl), (Nat.le_of_ble_eq_true rfl)⟩ rfl
theorem ct_Hall_signal_Lock_1 {A : Nat → Nat} {K : sh_II} {L : sh_DD} {t : Nat} {s : Nat} {a : Int32} (ht : t < 6) (hs : s < 8) (hk_s : cw_cl (K 12 s) = 4) (c0_11 : (K 5 t) = -1) : sh_cM A md_Hall_signal [.ref (A 0), .int (nI t), .int (nI s), .int a] K L (.inr 4) K L := by
  refine sh_cp (fun w Z k => sh_aload_n dc_Hall_signal_0 rfl rfl k) ?_
  refine sh_cp (fun w Z k => sh_iload_n dc_Hall_signal_1 rfl rfl k) ?_
  refine sh_ccall (fun w hw => sh_virt (As := [.int (nI t)]) dc_Hall_signal_2 lm_Hall_workerAt ln_Hall_62 wd_448 wd_3 rfl rfl (Nat.le_of_ble_eq_true rfl) (hw _ _ cw_o0) rfl) (ct_Hall_workerAt_1 (t := t) (by omega)) ⟨(Nat.le_of_ble_eq_true rfl), (Nat.le_of_ble_eq_true rfl), (Nat.le_of_ble_eq_true rfl), (Nat.le_of_ble_eq_true rfl)⟩ ?_
  show sh_cW _ _ (_, _, [.ref (A (10 + t))]) K L _ _ _ _ _
  refine sh_cp (fun w Z k => sh_astore dc_Hall_signal_5 (by decide) k) ?_
  refine sh_cp (fun w Z k => sh_aload_n dc_Hall_signal_7 rfl rfl k) ?_
  refine sh_cp (fun w Z k => sh_aload dc_Hall_signal_8 rfl k) ?_
  refine sh_cp (fun w Z k => sh_iload_n dc_Hall_signal_10 rfl rfl k) ?_
  exact sh_ccallT (fun w hw => sh_virt (As := [.ref (A (10 + t)), .int (nI s)]) dc_Hall_signal_11 lm_Hall_conditionFor ln_Hall_147 wd_733 wd_24 rfl rfl (Nat.le_of_ble_eq_true rfl) (hw _ _ cw_o0) rfl) (ct_Hall_conditionFor_Lock_1 (t := t) (s := s) (by omega) (by omega) hk_s c0_11) ⟨(Nat.le_of_ble_eq_true rfl), (Nat.le_of_ble_eq_true rfl), (Nat.le_of_ble_eq_true rfl), (Nat.le_of_ble_eq_true rfl)⟩ rfl
theorem ct_Hall_signal_Lock_2 {A : Nat → Nat} {K : sh_II} {L : sh_DD} {t : Nat} {s : Nat} {a : Int32} {u5_11 : Nat} (ht : t < 6) (hs : s < 8) (hk_s : cw_cl (K 12 s) = 4) (hu5_11 : u5_11 < 8) (c1_11 : (K 5 t) = nI u5_11) : sh_cM A md_Hall_signal [.ref (A 0), .int (nI t), .int (nI s), .int a] K L (.inr 3) K L := by
  refine sh_cp (fun w Z k => sh_aload_n dc_Hall_signal_0 rfl rfl k) ?_
  refine sh_cp (fun w Z k => sh_iload_n dc_Hall_signal_1 rfl rfl k) ?_
  refine sh_ccall (fun w hw => sh_virt (As := [.int (nI t)]) dc_Hall_signal_2 lm_Hall_workerAt ln_Hall_62 wd_448 wd_3 rfl rfl (Nat.le_of_ble_eq_true rfl) (hw _ _ cw_o0) rfl) (ct_Hall_workerAt_1 (t := t) (by omega)) ⟨(Nat.le_of_ble_eq_true rfl), (Nat.le_of_ble_eq_true rfl), (Nat.le_of_ble_eq_true rfl), (Nat.le_of_ble_eq_true rfl)⟩ ?_
  show sh_cW _ _ (_, _, [.ref (A (10 + t))]) K L _ _ _ _ _
  refine sh_cp (fun w Z k => sh_astore dc_Hall_signal_5 (by decide) k) ?_
  refine sh_cp (fun w Z k => sh_aload_n dc_Hall_signal_7 rfl rfl k) ?_
  refine sh_cp (fun w Z k => sh_aload dc_Hall_signal_8 rfl k) ?_
  refine sh_cp (fun w Z k => sh_iload_n dc_Hall_signal_10 rfl rfl k) ?_
  exact sh_ccallT (fun w hw => sh_virt (As := [.ref (A (10 + t)), .int (nI s)]) dc_Hall_signal_11 lm_Hall_conditionFor ln_Hall_147 wd_733 wd_24 rfl rfl (Nat.le_of_ble_eq_true rfl) (hw _ _ cw_o0) rfl) (ct_Hall_conditionFor_Lock_2 (t := t) (s := s) (u5_7 := u5_11) (by omega) (by omega) hk_s (by omega) c1_11) ⟨(Nat.le_of_ble_eq_true rfl), (Nat.le_of_ble_eq_true rfl), (Nat.le_of_ble_eq_true rfl), (Nat.le_of_ble_eq_true rfl)⟩ rfl
theorem ct_Hall_signal_Semaphore_1 {A : Nat → Nat} {K : sh_II} {L : sh_DD} {t : Nat} {s : Nat} {a : Int32} (ht : t < 6) (hs : s < 8) (hk_s : cw_cl (K 12 s) = 5) (c0_11 : (K 5 t) = -1) : sh_cM A md_Hall_signal [.ref (A 0), .int (nI t), .int (nI s), .int a] K L (.inr 4) K L := by
  refine sh_cp (fun w Z k => sh_aload_n dc_Hall_signal_0 rfl rfl k) ?_
  refine sh_cp (fun w Z k => sh_iload_n dc_Hall_signal_1 rfl rfl k) ?_
  refine sh_ccall (fun w hw => sh_virt (As := [.int (nI t)]) dc_Hall_signal_2 lm_Hall_workerAt ln_Hall_62 wd_448 wd_3 rfl rfl (Nat.le_of_ble_eq_true rfl) (hw _ _ cw_o0) rfl) (ct_Hall_workerAt_1 (t := t) (by omega)) ⟨(Nat.le_of_ble_eq_true rfl), (Nat.le_of_ble_eq_true rfl), (Nat.le_of_ble_eq_true rfl), (Nat.le_of_ble_eq_true rfl)⟩ ?_
  show sh_cW _ _ (_, _, [.ref (A (10 + t))]) K L _ _ _ _ _
  refine sh_cp (fun w Z k => sh_astore dc_Hall_signal_5 (by decide) k) ?_
  refine sh_cp (fun w Z k => sh_aload_n dc_Hall_signal_7 rfl rfl k) ?_
  refine sh_cp (fun w Z k => sh_aload dc_Hall_signal_8 rfl k) ?_
  refine sh_cp (fun w Z k => sh_iload_n dc_Hall_signal_10 rfl rfl k) ?_
  exact sh_ccallT (fun w hw => sh_virt (As := [.ref (A (10 + t)), .int (nI s)]) dc_Hall_signal_11 lm_Hall_conditionFor ln_Hall_147 wd_733 wd_24 rfl rfl (Nat.le_of_ble_eq_true rfl) (hw _ _ cw_o0) rfl) (ct_Hall_conditionFor_Semaphore_1 (t := t) (s := s) (by omega) (by omega) hk_s c0_11) ⟨(Nat.le_of_ble_eq_true rfl), (Nat.le_of_ble_eq_true rfl), (Nat.le_of_ble_eq_true rfl), (Nat.le_of_ble_eq_true rfl)⟩ rfl
theorem ct_Hall_signal_Semaphore_2 {A : Nat → Nat} {K : sh_II} {L : sh_DD} {t : Nat} {s : Nat} {a : Int32} {u5_11 : Nat} (ht : t < 6) (hs : s < 8) (hk_s : cw_cl (K 12 s) = 5) (hu5_11 : u5_11 < 8) (c1_11 : (K 5 t) = nI u5_11) : sh_cM A md_Hall_signal [.ref (A 0), .int (nI t), .int (nI s), .int a] K L (.inr 3) K L := by
  refine sh_cp (fun w Z k => sh_aload_n dc_Hall_signal_0 rfl rfl k) ?_
  refine sh_cp (fun w Z k => sh_iload_n dc_Hall_signal_1 rfl rfl k) ?_
  refine sh_ccall (fun w hw => sh_virt (As := [.int (nI t)]) dc_Hall_signal_2 lm_Hall_workerAt ln_Hall_62 wd_448 wd_3 rfl rfl (Nat.le_of_ble_eq_true rfl) (hw _ _ cw_o0) rfl) (ct_Hall_workerAt_1 (t := t) (by omega)) ⟨(Nat.le_of_ble_eq_true rfl), (Nat.le_of_ble_eq_true rfl), (Nat.le_of_ble_eq_true rfl), (Nat.le_of_ble_eq_true rfl)⟩ ?_
  show sh_cW _ _ (_, _, [.ref (A (10 + t))]) K L _ _ _ _ _
  refine sh_cp (fun w Z k => sh_astore dc_Hall_signal_5 (by decide) k) ?_
  refine sh_cp (fun w Z k => sh_aload_n dc_Hall_signal_7 rfl rfl k) ?_
  refine sh_cp (fun w Z k => sh_aload dc_Hall_signal_8 rfl k) ?_
  refine sh_cp (fun w Z k => sh_iload_n dc_Hall_signal_10 rfl rfl k) ?_
  exact sh_ccallT (fun w hw => sh_virt (As := [.ref (A (10 + t)), .int (nI s)]) dc_Hall_signal_11 lm_Hall_conditionFor ln_Hall_147 wd_733 wd_24 rfl rfl (Nat.le_of_ble_eq_true rfl) (hw _ _ cw_o0) rfl) (ct_Hall_conditionFor_Semaphore_2 (t := t) (s := s) (u5_7 := u5_11) (by omega) (by omega) hk_s (by omega) c1_11) ⟨(Nat.le_of_ble_eq_true rfl), (Nat.le_of_ble_eq_true rfl), (Nat.le_of_ble_eq_true rfl), (Nat.le_of_ble_eq_true rfl)⟩ rfl
theorem ct_Hall_signal_Latch_1 {A : Nat → Nat} {K : sh_II} {L : sh_DD} {t : Nat} {s : Nat} {a : Int32} (ht : t < 6) (hs : s < 8) (hk_s : cw_cl (K 12 s) = 6) (c0_11 : (K 5 t) = -1) : sh_cM A md_Hall_signal [.ref (A 0), .int (nI t), .int (nI s), .int a] K L (.inr 4) K L := by
  refine sh_cp (fun w Z k => sh_aload_n dc_Hall_signal_0 rfl rfl k) ?_
  refine sh_cp (fun w Z k => sh_iload_n dc_Hall_signal_1 rfl rfl k) ?_
  refine sh_ccall (fun w hw => sh_virt (As := [.int (nI t)]) dc_Hall_signal_2 lm_Hall_workerAt ln_Hall_62 wd_448 wd_3 rfl rfl (Nat.le_of_ble_eq_true rfl) (hw _ _ cw_o0) rfl) (ct_Hall_workerAt_1 (t := t) (by omega)) ⟨(Nat.le_of_ble_eq_true rfl), (Nat.le_of_ble_eq_true rfl), (Nat.le_of_ble_eq_true rfl), (Nat.le_of_ble_eq_true rfl)⟩ ?_
  show sh_cW _ _ (_, _, [.ref (A (10 + t))]) K L _ _ _ _ _
  refine sh_cp (fun w Z k => sh_astore dc_Hall_signal_5 (by decide) k) ?_
  refine sh_cp (fun w Z k => sh_aload_n dc_Hall_signal_7 rfl rfl k) ?_
  refine sh_cp (fun w Z k => sh_aload dc_Hall_signal_8 rfl k) ?_
  refine sh_cp (fun w Z k => sh_iload_n dc_Hall_signal_10 rfl rfl k) ?_
  exact sh_ccallT (fun w hw => sh_virt (As := [.ref (A (10 + t)), .int (nI s)]) dc_Hall_signal_11 lm_Hall_conditionFor ln_Hall_147 wd_733 wd_24 rfl rfl (Nat.le_of_ble_eq_true rfl) (hw _ _ cw_o0) rfl) (ct_Hall_conditionFor_Latch_1 (t := t) (s := s) (by omega) (by omega) hk_s c0_11) ⟨(Nat.le_of_ble_eq_true rfl), (Nat.le_of_ble_eq_true rfl), (Nat.le_of_ble_eq_true rfl), (Nat.le_of_ble_eq_true rfl)⟩ rfl
theorem ct_Hall_signal_Latch_2 {A : Nat → Nat} {K : sh_II} {L : sh_DD} {t : Nat} {s : Nat} {a : Int32} {u5_11 : Nat} (ht : t < 6) (hs : s < 8) (hk_s : cw_cl (K 12 s) = 6) (hu5_11 : u5_11 < 8) (c1_11 : (K 5 t) = nI u5_11) : sh_cM A md_Hall_signal [.ref (A 0), .int (nI t), .int (nI s), .int a] K L (.inr 3) K L := by
  refine sh_cp (fun w Z k => sh_aload_n dc_Hall_signal_0 rfl rfl k) ?_
  refine sh_cp (fun w Z k => sh_iload_n dc_Hall_signal_1 rfl rfl k) ?_
  refine sh_ccall (fun w hw => sh_virt (As := [.int (nI t)]) dc_Hall_signal_2 lm_Hall_workerAt ln_Hall_62 wd_448 wd_3 rfl rfl (Nat.le_of_ble_eq_true rfl) (hw _ _ cw_o0) rfl) (ct_Hall_workerAt_1 (t := t) (by omega)) ⟨(Nat.le_of_ble_eq_true rfl), (Nat.le_of_ble_eq_true rfl), (Nat.le_of_ble_eq_true rfl), (Nat.le_of_ble_eq_true rfl)⟩ ?_
  show sh_cW _ _ (_, _, [.ref (A (10 + t))]) K L _ _ _ _ _
  refine sh_cp (fun w Z k => sh_astore dc_Hall_signal_5 (by decide) k) ?_
  refine sh_cp (fun w Z k => sh_aload_n dc_Hall_signal_7 rfl rfl k) ?_
  refine sh_cp (fun w Z k => sh_aload dc_Hall_signal_8 rfl k) ?_
  refine sh_cp (fun w Z k => sh_iload_n dc_Hall_signal_10 rfl rfl k) ?_
  exact sh_ccallT (fun w hw => sh_virt (As := [.ref (A (10 + t)), .int (nI s)]) dc_Hall_signal_11 lm_Hall_conditionFor ln_Hall_147 wd_733 wd_24 rfl rfl (Nat.le_of_ble_eq_true rfl) (hw _ _ cw_o0) rfl) (ct_Hall_conditionFor_Latch_2 (t := t) (s := s) (u5_7 := u5_11) (by omega) (by omega) hk_s (by omega) c1_11) ⟨(Nat.le_of_ble_eq_true rfl), (Nat.le_of_ble_eq_true rfl), (Nat.le_of_ble_eq_true rfl), (Nat.le_of_ble_eq_true rfl)⟩ rfl
theorem ct_Hall_signal_Shared_1 {A : Nat → Nat} {K : sh_II} {L : sh_DD} {t : Nat} {s : Nat} {a : Int32} (ht : t < 6) (hs : s < 8) (hk_s : cw_cl (K 12 s) = 7) (c0_11 : (K 5 t) = -1) : sh_cM A md_Hall_signal [.ref (A 0), .int (nI t), .int (nI s), .int a] K L (.inr 4) K L := by
  refine sh_cp (fun w Z k => sh_aload_n dc_Hall_signal_0 rfl rfl k) ?_
  refine sh_cp (fun w Z k => sh_iload_n dc_Hall_signal_1 rfl rfl k) ?_
  refine sh_ccall (fun w hw => sh_virt (As := [.int (nI t)]) dc_Hall_signal_2 lm_Hall_workerAt ln_Hall_62 wd_448 wd_3 rfl rfl (Nat.le_of_ble_eq_true rfl) (hw _ _ cw_o0) rfl) (ct_Hall_workerAt_1 (t := t) (by omega)) ⟨(Nat.le_of_ble_eq_true rfl), (Nat.le_of_ble_eq_true rfl), (Nat.le_of_ble_eq_true rfl), (Nat.le_of_ble_eq_true rfl)⟩ ?_
  show sh_cW _ _ (_, _, [.ref (A (10 + t))]) K L _ _ _ _ _
  refine sh_cp (fun w Z k => sh_astore dc_Hall_signal_5 (by decide) k) ?_
  refine sh_cp (fun w Z k => sh_aload_n dc_Hall_signal_7 rfl rfl k) ?_
  refine sh_cp (fun w Z k => sh_aload dc_Hall_signal_8 rfl k) ?_
  refine sh_cp (fun w Z k => sh_iload_n dc_Hall_signal_10 rfl rfl k) ?_
  exact sh_ccallT (fun w hw => sh_virt (As := [.ref (A (10 + t)), .int (nI s)]) dc_Hall_signal_11 lm_Hall_conditionFor ln_Hall_147 wd_733 wd_24 rfl rfl (Nat.le_of_ble_eq_true rfl) (hw _ _ cw_o0) rfl) (ct_Hall_conditionFor_Shared_1 (t := t) (s := s) (by omega) (by omega) hk_s c0_11) ⟨(Nat.le_of_ble_eq_true rfl), (Nat.le_of_ble_eq_true rfl), (Nat.le_of_ble_eq_true rfl), (Nat.le_of_ble_eq_true rfl)⟩ rfl
theorem ct_Hall_signal_Shared_2 {A : Nat → Nat} {K : sh_II} {L : sh_DD} {t : Nat} {s : Nat} {a : Int32} {u5_11 : Nat} (ht : t < 6) (hs : s < 8) (hk_s : cw_cl (K 12 s) = 7) (hu5_11 : u5_11 < 8) (c1_11 : (K 5 t) = nI u5_11) : sh_cM A md_Hall_signal [.ref (A 0), .int (nI t), .int (nI s), .int a] K L (.inr 3) K L := by
  refine sh_cp (fun w Z k => sh_aload_n dc_Hall_signal_0 rfl rfl k) ?_
  refine sh_cp (fun w Z k => sh_iload_n dc_Hall_signal_1 rfl rfl k) ?_
  refine sh_ccall (fun w hw => sh_virt (As := [.int (nI t)]) dc_Hall_signal_2 lm_Hall_workerAt ln_Hall_62 wd_448 wd_3 rfl rfl (Nat.le_of_ble_eq_true rfl) (hw _ _ cw_o0) rfl) (ct_Hall_workerAt_1 (t := t) (by omega)) ⟨(Nat.le_of_ble_eq_true rfl), (Nat.le_of_ble_eq_true rfl), (Nat.le_of_ble_eq_true rfl), (Nat.le_of_ble_eq_true rfl)⟩ ?_
  show sh_cW _ _ (_, _, [.ref (A (10 + t))]) K L _ _ _ _ _
  refine sh_cp (fun w Z k => sh_astore dc_Hall_signal_5 (by decide) k) ?_
  refine sh_cp (fun w Z k => sh_aload_n dc_Hall_signal_7 rfl rfl k) ?_
  refine sh_cp (fun w Z k => sh_aload dc_Hall_signal_8 rfl k) ?_
  refine sh_cp (fun w Z k => sh_iload_n dc_Hall_signal_10 rfl rfl k) ?_
  exact sh_ccallT (fun w hw => sh_virt (As := [.ref (A (10 + t)), .int (nI s)]) dc_Hall_signal_11 lm_Hall_conditionFor ln_Hall_147 wd_733 wd_24 rfl rfl (Nat.le_of_ble_eq_true rfl) (hw _ _ cw_o0) rfl) (ct_Hall_conditionFor_Shared_2 (t := t) (s := s) (u5_7 := u5_11) (by omega) (by omega) hk_s (by omega) c1_11) ⟨(Nat.le_of_ble_eq_true rfl), (Nat.le_of_ble_eq_true rfl), (Nat.le_of_ble_eq_true rfl), (Nat.le_of_ble_eq_true rfl)⟩ rfl
theorem ct_Hall_signal_b_1 {A : Nat → Nat} {K : sh_II} {L : sh_DD} {t : Nat} {s : Nat} {a : Int32} {q : Nat} {b : Nat} (ht : t < 6) (hs : s < 8) (hq : q < 8) (eq : K 16 s = nI q) (hb : b < 8) (eb : K 5 t = nI b) (hk_s : cw_cl (K 12 s) = 8) (hk_q : cw_cl (K 12 q) = 4) : sh_cM A md_Hall_signal [.ref (A 0), .int (nI t), .int (nI s), .int a] K L (.inr 3) K L := by
  refine sh_cp (fun w Z k => sh_aload_n dc_Hall_signal_0 rfl rfl k) ?_
  refine sh_cp (fun w Z k => sh_iload_n dc_Hall_signal_1 rfl rfl k) ?_
  refine sh_ccall (fun w hw => sh_virt (As := [.int (nI t)]) dc_Hall_signal_2 lm_Hall_workerAt ln_Hall_62 wd_448 wd_3 rfl rfl (Nat.le_of_ble_eq_true rfl) (hw _ _ cw_o0) rfl) (ct_Hall_workerAt_1 (t := t) (by omega)) ⟨(Nat.le_of_ble_eq_true rfl), (Nat.le_of_ble_eq_true rfl), (Nat.le_of_ble_eq_true rfl), (Nat.le_of_ble_eq_true rfl)⟩ ?_
  show sh_cW _ _ (_, _, [.ref (A (10 + t))]) K L _ _ _ _ _
  refine sh_cp (fun w Z k => sh_astore dc_Hall_signal_5 (by decide) k) ?_
  refine sh_cp (fun w Z k => sh_aload_n dc_Hall_signal_7 rfl rfl k) ?_
  refine sh_cp (fun w Z k => sh_aload dc_Hall_signal_8 rfl k) ?_
  refine sh_cp (fun w Z k => sh_iload_n dc_Hall_signal_10 rfl rfl k) ?_
  exact sh_ccallT (fun w hw => sh_virt (As := [.ref (A (10 + t)), .int (nI s)]) dc_Hall_signal_11 lm_Hall_conditionFor ln_Hall_147 wd_733 wd_24 rfl rfl (Nat.le_of_ble_eq_true rfl) (hw _ _ cw_o0) rfl) (ct_Hall_conditionFor_Condition_4 (t := t) (s := s) (q := q) (u5_7 := b) (by omega) (by omega) (by omega) eq hk_s hk_q (by omega) eb) ⟨(Nat.le_of_ble_eq_true rfl), (Nat.le_of_ble_eq_true rfl), (Nat.le_of_ble_eq_true rfl), (Nat.le_of_ble_eq_true rfl)⟩ rfl
