theorem sp_sub3 (s : Nat) : nI (s + 3) - 3 = nI s := by rw [← nI_add s 3]; exact Int32.add_sub_cancel _ _
theorem sp_le10 {s : Nat} (h : s < 8) : nI (s + 3) ≤ 10 := nI_le (b := 10) (by omega) (by decide)
theorem sp_gt2 {s : Nat} (h : s < 8) : (nI (s + 3)).toInt < 0 ∨ 2 < (nI (s + 3)).toInt := Or.inr (by rw [nI_toInt (by omega)]; omega)
theorem ct_Hall_rank_x_1 {A : Nat → Nat} {K : sh_II} {L : sh_DD} {x : Int32} {y : UInt64} (c0_2 : x < 0) : sh_cM A md_Hall_rank [.ref (A 0), .int x, .double y] K L (.inr 1) K L := by
  refine sh_cp (fun w Z k => sh_aload_n dc_Hall_rank_0 rfl rfl k) ?_
  refine sh_cp (fun w Z k => sh_iload_n dc_Hall_rank_1 rfl rfl k) ?_
  exact sh_ccallT (fun w hw => sh_virt (As := [.int x]) dc_Hall_rank_2 lm_Hall_workerAt ln_Hall_62 wd_448 wd_3 rfl rfl (Nat.le_of_ble_eq_true rfl) (hw _ _ cw_o0) rfl) (ct_Hall_workerAt_x_1 (x := x) c0_2) ⟨(Nat.le_of_ble_eq_true rfl), (Nat.le_of_ble_eq_true rfl), (Nat.le_of_ble_eq_true rfl), (Nat.le_of_ble_eq_true rfl)⟩ rfl
theorem ct_Hall_rank_x_2 {A : Nat → Nat} {K : sh_II} {L : sh_DD} {x : Int32} {y : UInt64} (c0_2 : ¬ x < 0) (c1_2 : ¬ x ≤ 5) : sh_cM A md_Hall_rank [.ref (A 0), .int x, .double y] K L (.inr 1) K L := by
  refine sh_cp (fun w Z k => sh_aload_n dc_Hall_rank_0 rfl rfl k) ?_
  refine sh_cp (fun w Z k => sh_iload_n dc_Hall_rank_1 rfl rfl k) ?_
  exact sh_ccallT (fun w hw => sh_virt (As := [.int x]) dc_Hall_rank_2 lm_Hall_workerAt ln_Hall_62 wd_448 wd_3 rfl rfl (Nat.le_of_ble_eq_true rfl) (hw _ _ cw_o0) rfl) (ct_Hall_workerAt_x_2 (x := x) c0_2 c1_2) ⟨(Nat.le_of_ble_eq_true rfl), (Nat.le_of_ble_eq_true rfl), (Nat.le_of_ble_eq_true rfl), (Nat.le_of_ble_eq_true rfl)⟩ rfl
theorem ct_Hall_rank_1 {A : Nat → Nat} {K : sh_II} {L : sh_DD} {t : Nat} {y : UInt64} (ht : t < 6) (c0_14 : (Op.cmpValue (FP.dcmp y (FP.i2d (-1000))) .l) < 0) : sh_cM A md_Hall_rank [.ref (A 0), .int (nI t), .double y] K L (.inr 1) K L := by
  refine sh_cp (fun w Z k => sh_aload_n dc_Hall_rank_0 rfl rfl k) ?_
  refine sh_cp (fun w Z k => sh_iload_n dc_Hall_rank_1 rfl rfl k) ?_
  refine sh_ccall (fun w hw => sh_virt (As := [.int (nI t)]) dc_Hall_rank_2 lm_Hall_workerAt ln_Hall_62 wd_448 wd_3 rfl rfl (Nat.le_of_ble_eq_true rfl) (hw _ _ cw_o0) rfl) (ct_Hall_workerAt_1 (t := t) (by omega)) ⟨(Nat.le_of_ble_eq_true rfl), (Nat.le_of_ble_eq_true rfl), (Nat.le_of_ble_eq_true rfl), (Nat.le_of_ble_eq_true rfl)⟩ ?_
  show sh_cW _ _ (_, _, [.ref (A (10 + t))]) K L _ _ _ _ _
  refine sh_cp (fun w Z k => sh_astore dc_Hall_rank_5 (by decide) k) ?_
  refine sh_cp (fun w Z k => sh_dload_n dc_Hall_rank_7 rfl rfl k) ?_
  refine sh_cp (fun w Z k => sh_sipush (v := (-1000)) dc_Hall_rank_8 (by decide) k) ?_
  refine sh_cp (fun w Z k => sh_sipush (v := 1000) dc_Hall_rank_11 (by decide) k) ?_
  exact sh_ccallT (fun w hw => sh_stat (As := [.double y, .int (-1000), .int 1000]) dc_Hall_rank_14 lm_Hall_checkAmount ln_Hall_66 wd_451 wd_49 rfl rfl (Nat.le_of_ble_eq_true rfl)) (ct_Hall_checkAmount_1 (x := y) (lo := (-1000)) (hi := 1000) c0_14) ⟨(Nat.le_of_ble_eq_true rfl), (Nat.le_of_ble_eq_true rfl), (Nat.le_of_ble_eq_true rfl), (Nat.le_of_ble_eq_true rfl)⟩ rfl
theorem ct_Hall_rank_2 {A : Nat → Nat} {K : sh_II} {L : sh_DD} {t : Nat} {y : UInt64} (ht : t < 6) (c0_14 : ¬ (Op.cmpValue (FP.dcmp y (FP.i2d (-1000))) .l) < 0) (c1_14 : (Op.cmpValue (FP.dcmp y (FP.i2d 1000)) .g) ≤ 0) : sh_cM A md_Hall_rank [.ref (A 0), .int (nI t), .double y] K L (.inl none) K (sh_u2 L 3 t y) := by
  refine sh_cp (fun w Z k => sh_aload_n dc_Hall_rank_0 rfl rfl k) ?_
  refine sh_cp (fun w Z k => sh_iload_n dc_Hall_rank_1 rfl rfl k) ?_
  refine sh_ccall (fun w hw => sh_virt (As := [.int (nI t)]) dc_Hall_rank_2 lm_Hall_workerAt ln_Hall_62 wd_448 wd_3 rfl rfl (Nat.le_of_ble_eq_true rfl) (hw _ _ cw_o0) rfl) (ct_Hall_workerAt_1 (t := t) (by omega)) ⟨(Nat.le_of_ble_eq_true rfl), (Nat.le_of_ble_eq_true rfl), (Nat.le_of_ble_eq_true rfl), (Nat.le_of_ble_eq_true rfl)⟩ ?_
  show sh_cW _ _ (_, _, [.ref (A (10 + t))]) K L _ _ _ _ _
  refine sh_cp (fun w Z k => sh_astore dc_Hall_rank_5 (by decide) k) ?_
  refine sh_cp (fun w Z k => sh_dload_n dc_Hall_rank_7 rfl rfl k) ?_
  refine sh_cp (fun w Z k => sh_sipush (v := (-1000)) dc_Hall_rank_8 (by decide) k) ?_
  refine sh_cp (fun w Z k => sh_sipush (v := 1000) dc_Hall_rank_11 (by decide) k) ?_
  refine sh_ccall (fun w hw => sh_stat (As := [.double y, .int (-1000), .int 1000]) dc_Hall_rank_14 lm_Hall_checkAmount ln_Hall_66 wd_451 wd_49 rfl rfl (Nat.le_of_ble_eq_true rfl)) (ct_Hall_checkAmount_2 (x := y) (lo := (-1000)) (hi := 1000) c0_14 c1_14) ⟨(Nat.le_of_ble_eq_true rfl), (Nat.le_of_ble_eq_true rfl), (Nat.le_of_ble_eq_true rfl), (Nat.le_of_ble_eq_true rfl)⟩ ?_
  show sh_cW _ _ (_, _, []) K L _ _ _ _ _
  refine sh_cp (fun w Z k => sh_aload dc_Hall_rank_17 rfl k) ?_
  refine sh_cp (fun w Z k => sh_dload_n dc_Hall_rank_19 rfl rfl k) ?_
  refine sh_cput (K1 := K) (L1 := (sh_u2 L 3 t y)) (10 + t) 1 dc_Hall_rank_20 (cw_ow (by omega)) rfl (by decide) fl_Hall_70 rfl rfl rfl rfl pd_D rfl rfl (cq_Worker_3 (by omega)) (fun i hi => cw_upD hi) ?_
  exact sh_ce (fun w => sh_return dc_Hall_rank_23 rfl (by decide) (by decide))
theorem ct_Hall_rank_3 {A : Nat → Nat} {K : sh_II} {L : sh_DD} {t : Nat} {y : UInt64} (ht : t < 6) (c0_14 : ¬ (Op.cmpValue (FP.dcmp y (FP.i2d (-1000))) .l) < 0) (c1_14 : ¬ (Op.cmpValue (FP.dcmp y (FP.i2d 1000)) .g) ≤ 0) : sh_cM A md_Hall_rank [.ref (A 0), .int (nI t), .double y] K L (.inr 1) K L := by
  refine sh_cp (fun w Z k => sh_aload_n dc_Hall_rank_0 rfl rfl k) ?_
  refine sh_cp (fun w Z k => sh_iload_n dc_Hall_rank_1 rfl rfl k) ?_
  refine sh_ccall (fun w hw => sh_virt (As := [.int (nI t)]) dc_Hall_rank_2 lm_Hall_workerAt ln_Hall_62 wd_448 wd_3 rfl rfl (Nat.le_of_ble_eq_true rfl) (hw _ _ cw_o0) rfl) (ct_Hall_workerAt_1 (t := t) (by omega)) ⟨(Nat.le_of_ble_eq_true rfl), (Nat.le_of_ble_eq_true rfl), (Nat.le_of_ble_eq_true rfl), (Nat.le_of_ble_eq_true rfl)⟩ ?_
  show sh_cW _ _ (_, _, [.ref (A (10 + t))]) K L _ _ _ _ _
  refine sh_cp (fun w Z k => sh_astore dc_Hall_rank_5 (by decide) k) ?_
  refine sh_cp (fun w Z k => sh_dload_n dc_Hall_rank_7 rfl rfl k) ?_
  refine sh_cp (fun w Z k => sh_sipush (v := (-1000)) dc_Hall_rank_8 (by decide) k) ?_
  refine sh_cp (fun w Z k => sh_sipush (v := 1000) dc_Hall_rank_11 (by decide) k) ?_
  exact sh_ccallT (fun w hw => sh_stat (As := [.double y, .int (-1000), .int 1000]) dc_Hall_rank_14 lm_Hall_checkAmount ln_Hall_66 wd_451 wd_49 rfl rfl (Nat.le_of_ble_eq_true rfl)) (ct_Hall_checkAmount_3 (x := y) (lo := (-1000)) (hi := 1000) c0_14 c1_14) ⟨(Nat.le_of_ble_eq_true rfl), (Nat.le_of_ble_eq_true rfl), (Nat.le_of_ble_eq_true rfl), (Nat.le_of_ble_eq_true rfl)⟩ rfl
theorem ct_Hall_policy_1 {A : Nat → Nat} {K : sh_II} {L : sh_DD} {x : Int32} (c0_3 : x < 0) : sh_cM A md_Hall_policy [.ref (A 0), .int x] K L (.inr 1) K L := by
  refine sh_cp (fun w Z k => sh_iload_n dc_Hall_policy_0 rfl rfl k) ?_
  refine sh_cp (fun w Z k => sh_iconst (v := 0) dc_Hall_policy_1 (by decide) k) ?_
  refine sh_cp (fun w Z k => sh_iconst (v := 2) dc_Hall_policy_2 (by decide) k) ?_
  exact sh_ccallT (fun w hw => sh_stat (As := [.int x, .int 0, .int 2]) dc_Hall_policy_3 lm_Hall_checkNumber ln_Hall_39 wd_191 wd_49 rfl rfl (Nat.le_of_ble_eq_true rfl)) (ct_Hall_checkNumber_1 (x := x) (lo := 0) (hi := 2) c0_3) ⟨(Nat.le_of_ble_eq_true rfl), (Nat.le_of_ble_eq_true rfl), (Nat.le_of_ble_eq_true rfl), (Nat.le_of_ble_eq_true rfl)⟩ rfl
theorem ct_Hall_policy_2 {A : Nat → Nat} {K : sh_II} {L : sh_DD} {x : Int32} (c0_3 : ¬ x < 0) (c1_3 : x ≤ 2) : sh_cM A md_Hall_policy [.ref (A 0), .int x] K L (.inl (some (.int (K 25 0)))) (sh_u2 K 24 0 x) L := by
  refine sh_cp (fun w Z k => sh_iload_n dc_Hall_policy_0 rfl rfl k) ?_
  refine sh_cp (fun w Z k => sh_iconst (v := 0) dc_Hall_policy_1 (by decide) k) ?_
  refine sh_cp (fun w Z k => sh_iconst (v := 2) dc_Hall_policy_2 (by decide) k) ?_
  refine sh_ccall (fun w hw => sh_stat (As := [.int x, .int 0, .int 2]) dc_Hall_policy_3 lm_Hall_checkNumber ln_Hall_39 wd_191 wd_49 rfl rfl (Nat.le_of_ble_eq_true rfl)) (ct_Hall_checkNumber_2 (x := x) (lo := 0) (hi := 2) c0_3 c1_3) ⟨(Nat.le_of_ble_eq_true rfl), (Nat.le_of_ble_eq_true rfl), (Nat.le_of_ble_eq_true rfl), (Nat.le_of_ble_eq_true rfl)⟩ ?_
  show sh_cW _ _ (_, _, []) K L _ _ _ _ _
  refine sh_cp (fun w Z k => sh_aload_n dc_Hall_policy_6 rfl rfl k) ?_
  refine sh_cget 0 2 dc_Hall_policy_7 cw_o0 rfl (by decide) fl_Hall_27 rfl rfl rfl rfl ?_
  refine sh_cp (fun w Z k => sh_iload_n dc_Hall_policy_10 rfl rfl k) ?_
  refine sh_cput (K1 := (sh_u2 K 24 0 x)) (L1 := L) 3 1 dc_Hall_policy_11 cw_o3 rfl (by decide) fl_Hall_193 rfl rfl rfl rfl pd_I rfl rfl (cq_LockOrder_24 ) (fun i hi => cw_upI (by decide) hi) ?_
  refine sh_cp (fun w Z k => sh_aload_n dc_Hall_policy_14 rfl rfl k) ?_
  refine sh_cget 0 2 dc_Hall_policy_15 cw_o0 rfl (by decide) fl_Hall_27 rfl rfl rfl rfl ?_
  refine sh_cget 3 2 dc_Hall_policy_18 cw_o3 rfl (by decide) fl_Hall_196 rfl rfl rfl rfl ?_
  refine sh_cti (show (sh_u2 K 24 0 x) 25 0 = K 25 0 from (sh_u2_row (by decide) _)) ?_
  exact sh_ce (fun w => sh_ireturn dc_Hall_policy_21 rfl rfl (by decide) (by decide))
theorem ct_Hall_policy_3 {A : Nat → Nat} {K : sh_II} {L : sh_DD} {x : Int32} (c0_3 : ¬ x < 0) (c1_3 : ¬ x ≤ 2) : sh_cM A md_Hall_policy [.ref (A 0), .int x] K L (.inr 1) K L := by
  refine sh_cp (fun w Z k => sh_iload_n dc_Hall_policy_0 rfl rfl k) ?_
  refine sh_cp (fun w Z k => sh_iconst (v := 0) dc_Hall_policy_1 (by decide) k) ?_
  refine sh_cp (fun w Z k => sh_iconst (v := 2) dc_Hall_policy_2 (by decide) k) ?_
  exact sh_ccallT (fun w hw => sh_stat (As := [.int x, .int 0, .int 2]) dc_Hall_policy_3 lm_Hall_checkNumber ln_Hall_39 wd_191 wd_49 rfl rfl (Nat.le_of_ble_eq_true rfl)) (ct_Hall_checkNumber_3 (x := x) (lo := 0) (hi := 2) c0_3 c1_3) ⟨(Nat.le_of_ble_eq_true rfl), (Nat.le_of_ble_eq_true rfl), (Nat.le_of_ble_eq_true rfl), (Nat.le_of_ble_eq_true rfl)⟩ rfl
theorem ct_Hall_thread_x_1 {A : Nat → Nat} {K : sh_II} {L : sh_DD} {x : Int32} {o : Int32} (c0_2 : x < 0) : sh_cM A md_Hall_thread [.ref (A 0), .int x, .int o] K L (.inr 1) K L := by
  refine sh_cp (fun w Z k => sh_aload_n dc_Hall_thread_0 rfl rfl k) ?_
  refine sh_cp (fun w Z k => sh_iload_n dc_Hall_thread_1 rfl rfl k) ?_
  exact sh_ccallT (fun w hw => sh_virt (As := [.int x]) dc_Hall_thread_2 lm_Hall_workerAt ln_Hall_62 wd_448 wd_3 rfl rfl (Nat.le_of_ble_eq_true rfl) (hw _ _ cw_o0) rfl) (ct_Hall_workerAt_x_1 (x := x) c0_2) ⟨(Nat.le_of_ble_eq_true rfl), (Nat.le_of_ble_eq_true rfl), (Nat.le_of_ble_eq_true rfl), (Nat.le_of_ble_eq_true rfl)⟩ rfl
theorem ct_Hall_thread_x_2 {A : Nat → Nat} {K : sh_II} {L : sh_DD} {x : Int32} {o : Int32} (c0_2 : ¬ x < 0) (c1_2 : ¬ x ≤ 5) : sh_cM A md_Hall_thread [.ref (A 0), .int x, .int o] K L (.inr 1) K L := by
  refine sh_cp (fun w Z k => sh_aload_n dc_Hall_thread_0 rfl rfl k) ?_
  refine sh_cp (fun w Z k => sh_iload_n dc_Hall_thread_1 rfl rfl k) ?_
  exact sh_ccallT (fun w hw => sh_virt (As := [.int x]) dc_Hall_thread_2 lm_Hall_workerAt ln_Hall_62 wd_448 wd_3 rfl rfl (Nat.le_of_ble_eq_true rfl) (hw _ _ cw_o0) rfl) (ct_Hall_workerAt_x_2 (x := x) c0_2 c1_2) ⟨(Nat.le_of_ble_eq_true rfl), (Nat.le_of_ble_eq_true rfl), (Nat.le_of_ble_eq_true rfl), (Nat.le_of_ble_eq_true rfl)⟩ rfl
theorem ct_Hall_thread_b_1 {A : Nat → Nat} {K : sh_II} {L : sh_DD} {t : Nat} {o : Int32} (ht : t < 6) (c0_10 : o < 0) : sh_cM A md_Hall_thread [.ref (A 0), .int (nI t), .int o] K L (.inr 1) K L := by
  refine sh_cp (fun w Z k => sh_aload_n dc_Hall_thread_0 rfl rfl k) ?_
  refine sh_cp (fun w Z k => sh_iload_n dc_Hall_thread_1 rfl rfl k) ?_
  refine sh_ccall (fun w hw => sh_virt (As := [.int (nI t)]) dc_Hall_thread_2 lm_Hall_workerAt ln_Hall_62 wd_448 wd_3 rfl rfl (Nat.le_of_ble_eq_true rfl) (hw _ _ cw_o0) rfl) (ct_Hall_workerAt_1 (t := t) (by omega)) ⟨(Nat.le_of_ble_eq_true rfl), (Nat.le_of_ble_eq_true rfl), (Nat.le_of_ble_eq_true rfl), (Nat.le_of_ble_eq_true rfl)⟩ ?_
  show sh_cW _ _ (_, _, [.ref (A (10 + t))]) K L _ _ _ _ _
  refine sh_cp (fun w Z k => sh_astore_n dc_Hall_thread_5 rfl (by decide) k) ?_
  refine sh_cp (fun w Z k => sh_iload_n dc_Hall_thread_6 rfl rfl k) ?_
  refine sh_cp (fun w Z k => sh_iconst (v := 0) dc_Hall_thread_7 (by decide) k) ?_
  refine sh_cp (fun w Z k => sh_bipush (v := 10) dc_Hall_thread_8 (by decide) k) ?_
  exact sh_ccallT (fun w hw => sh_stat (As := [.int o, .int 0, .int 10]) dc_Hall_thread_10 lm_Hall_checkNumber ln_Hall_39 wd_191 wd_49 rfl rfl (Nat.le_of_ble_eq_true rfl)) (ct_Hall_checkNumber_1 (x := o) (lo := 0) (hi := 10) c0_10) ⟨(Nat.le_of_ble_eq_true rfl), (Nat.le_of_ble_eq_true rfl), (Nat.le_of_ble_eq_true rfl), (Nat.le_of_ble_eq_true rfl)⟩ rfl
theorem ct_Hall_thread_b_2 {A : Nat → Nat} {K : sh_II} {L : sh_DD} {t : Nat} {o : Int32} (ht : t < 6) (c0_10 : ¬ o < 0) (c1_10 : o ≤ 10) (c2_14 : o = 0) (c3_41 : (K 5 t) = -1) : sh_cM A md_Hall_thread [.ref (A 0), .int (nI t), .int o] K L (.inl (some (.int 0))) K L := by
  refine sh_cp (fun w Z k => sh_aload_n dc_Hall_thread_0 rfl rfl k) ?_
  refine sh_cp (fun w Z k => sh_iload_n dc_Hall_thread_1 rfl rfl k) ?_
  refine sh_ccall (fun w hw => sh_virt (As := [.int (nI t)]) dc_Hall_thread_2 lm_Hall_workerAt ln_Hall_62 wd_448 wd_3 rfl rfl (Nat.le_of_ble_eq_true rfl) (hw _ _ cw_o0) rfl) (ct_Hall_workerAt_1 (t := t) (by omega)) ⟨(Nat.le_of_ble_eq_true rfl), (Nat.le_of_ble_eq_true rfl), (Nat.le_of_ble_eq_true rfl), (Nat.le_of_ble_eq_true rfl)⟩ ?_
  show sh_cW _ _ (_, _, [.ref (A (10 + t))]) K L _ _ _ _ _
  refine sh_cp (fun w Z k => sh_astore_n dc_Hall_thread_5 rfl (by decide) k) ?_
  refine sh_cp (fun w Z k => sh_iload_n dc_Hall_thread_6 rfl rfl k) ?_
  refine sh_cp (fun w Z k => sh_iconst (v := 0) dc_Hall_thread_7 (by decide) k) ?_
  refine sh_cp (fun w Z k => sh_bipush (v := 10) dc_Hall_thread_8 (by decide) k) ?_
  refine sh_ccall (fun w hw => sh_stat (As := [.int o, .int 0, .int 10]) dc_Hall_thread_10 lm_Hall_checkNumber ln_Hall_39 wd_191 wd_49 rfl rfl (Nat.le_of_ble_eq_true rfl)) (ct_Hall_checkNumber_2 (x := o) (lo := 0) (hi := 10) c0_10 c1_10) ⟨(Nat.le_of_ble_eq_true rfl), (Nat.le_of_ble_eq_true rfl), (Nat.le_of_ble_eq_true rfl), (Nat.le_of_ble_eq_true rfl)⟩ ?_
  show sh_cW _ _ (_, _, []) K L _ _ _ _ _
  refine sh_cp (fun w Z k => sh_iload_n dc_Hall_thread_13 rfl rfl k) ?_
  refine sh_cti c2_14 ?_
  refine sh_cp (fun w Z k => sh_tableIn (tgt := 40) dc_Hall_thread_14 (by decide) (by decide) rfl (by decide) k) ?_
  refine sh_cp (fun w Z k => sh_aload_n dc_Hall_thread_40 rfl rfl k) ?_
  refine sh_ccall (fun w hw => sh_virt (As := []) dc_Hall_thread_41 lm_Worker_isBlocked ln_Hall_176 wd_467 wd_4 rfl rfl (Nat.le_of_ble_eq_true rfl) (hw _ _ (cw_ow (by omega))) rfl) (ct_Worker_isBlocked_1 (t := t) (by omega) c3_41) ⟨(Nat.le_of_ble_eq_true rfl), (Nat.le_of_ble_eq_true rfl), (Nat.le_of_ble_eq_true rfl), (Nat.le_of_ble_eq_true rfl)⟩ ?_
  show sh_cW _ _ (_, _, [.int 0]) K L _ _ _ _ _
  refine sh_cp (fun w Z k => sh_if_eq (tgt := 51) dc_Hall_thread_44 (by decide) (fun _ => k) (fun z => absurd (by decide) z)) ?_
  refine sh_cp (fun w Z k => sh_iconst (v := 0) dc_Hall_thread_51 (by decide) k) ?_
  exact sh_ce (fun w => sh_ireturn dc_Hall_thread_52 rfl rfl (by decide) (by decide))
theorem ct_Hall_thread_b_3 {A : Nat → Nat} {K : sh_II} {L : sh_DD} {t : Nat} {o : Int32} {u5_41 : Nat} (ht : t < 6) (c0_10 : ¬ o < 0) (c1_10 : o ≤ 10) (c2_14 : o = 0) (hu5_41 : u5_41 < 8) (c4_41 : (K 5 t) = nI u5_41) : sh_cM A md_Hall_thread [.ref (A 0), .int (nI t), .int o] K L (.inl (some (.int 1))) K L := by
  refine sh_cp (fun w Z k => sh_aload_n dc_Hall_thread_0 rfl rfl k) ?_
  refine sh_cp (fun w Z k => sh_iload_n dc_Hall_thread_1 rfl rfl k) ?_
  refine sh_ccall (fun w hw => sh_virt (As := [.int (nI t)]) dc_Hall_thread_2 lm_Hall_workerAt ln_Hall_62 wd_448 wd_3 rfl rfl (Nat.le_of_ble_eq_true rfl) (hw _ _ cw_o0) rfl) (ct_Hall_workerAt_1 (t := t) (by omega)) ⟨(Nat.le_of_ble_eq_true rfl), (Nat.le_of_ble_eq_true rfl), (Nat.le_of_ble_eq_true rfl), (Nat.le_of_ble_eq_true rfl)⟩ ?_
  show sh_cW _ _ (_, _, [.ref (A (10 + t))]) K L _ _ _ _ _
  refine sh_cp (fun w Z k => sh_astore_n dc_Hall_thread_5 rfl (by decide) k) ?_
  refine sh_cp (fun w Z k => sh_iload_n dc_Hall_thread_6 rfl rfl k) ?_
  refine sh_cp (fun w Z k => sh_iconst (v := 0) dc_Hall_thread_7 (by decide) k) ?_
  refine sh_cp (fun w Z k => sh_bipush (v := 10) dc_Hall_thread_8 (by decide) k) ?_
  refine sh_ccall (fun w hw => sh_stat (As := [.int o, .int 0, .int 10]) dc_Hall_thread_10 lm_Hall_checkNumber ln_Hall_39 wd_191 wd_49 rfl rfl (Nat.le_of_ble_eq_true rfl)) (ct_Hall_checkNumber_2 (x := o) (lo := 0) (hi := 10) c0_10 c1_10) ⟨(Nat.le_of_ble_eq_true rfl), (Nat.le_of_ble_eq_true rfl), (Nat.le_of_ble_eq_true rfl), (Nat.le_of_ble_eq_true rfl)⟩ ?_
  show sh_cW _ _ (_, _, []) K L _ _ _ _ _
  refine sh_cp (fun w Z k => sh_iload_n dc_Hall_thread_13 rfl rfl k) ?_
  refine sh_cti c2_14 ?_
  refine sh_cp (fun w Z k => sh_tableIn (tgt := 40) dc_Hall_thread_14 (by decide) (by decide) rfl (by decide) k) ?_
  refine sh_cp (fun w Z k => sh_aload_n dc_Hall_thread_40 rfl rfl k) ?_
  refine sh_ccall (fun w hw => sh_virt (As := []) dc_Hall_thread_41 lm_Worker_isBlocked ln_Hall_176 wd_467 wd_4 rfl rfl (Nat.le_of_ble_eq_true rfl) (hw _ _ (cw_ow (by omega))) rfl) (ct_Worker_isBlocked_2 (t := t) (u5_1 := u5_41) (by omega) (by omega) c4_41) ⟨(Nat.le_of_ble_eq_true rfl), (Nat.le_of_ble_eq_true rfl), (Nat.le_of_ble_eq_true rfl), (Nat.le_of_ble_eq_true rfl)⟩ ?_
  show sh_cW _ _ (_, _, [.int 1]) K L _ _ _ _ _
  refine sh_cp (fun w Z k => sh_if_eq (tgt := 51) dc_Hall_thread_44 (by decide) (fun z => absurd z (by decide)) (fun _ => k)) ?_
  refine sh_cp (fun w Z k => sh_iconst (v := 1) dc_Hall_thread_47 (by decide) k) ?_
  refine sh_cp (fun w Z k => sh_goto_ (tgt := 52) dc_Hall_thread_48 (by decide) k) ?_
  exact sh_ce (fun w => sh_ireturn dc_Hall_thread_52 rfl rfl (by decide) (by decide))
theorem ct_Hall_thread_b_4 {A : Nat → Nat} {K : sh_II} {L : sh_DD} {t : Nat} {o : Int32} (ht : t < 6) (c0_10 : ¬ o < 0) (c1_10 : o ≤ 10) (c2_14 : o = 1) : sh_cM A md_Hall_thread [.ref (A 0), .int (nI t), .int o] K L (.inl (some (.int (K 4 t)))) K L := by
  refine sh_cp (fun w Z k => sh_aload_n dc_Hall_thread_0 rfl rfl k) ?_
  refine sh_cp (fun w Z k => sh_iload_n dc_Hall_thread_1 rfl rfl k) ?_
  refine sh_ccall (fun w hw => sh_virt (As := [.int (nI t)]) dc_Hall_thread_2 lm_Hall_workerAt ln_Hall_62 wd_448 wd_3 rfl rfl (Nat.le_of_ble_eq_true rfl) (hw _ _ cw_o0) rfl) (ct_Hall_workerAt_1 (t := t) (by omega)) ⟨(Nat.le_of_ble_eq_true rfl), (Nat.le_of_ble_eq_true rfl), (Nat.le_of_ble_eq_true rfl), (Nat.le_of_ble_eq_true rfl)⟩ ?_
  show sh_cW _ _ (_, _, [.ref (A (10 + t))]) K L _ _ _ _ _
  refine sh_cp (fun w Z k => sh_astore_n dc_Hall_thread_5 rfl (by decide) k) ?_
  refine sh_cp (fun w Z k => sh_iload_n dc_Hall_thread_6 rfl rfl k) ?_
  refine sh_cp (fun w Z k => sh_iconst (v := 0) dc_Hall_thread_7 (by decide) k) ?_
  refine sh_cp (fun w Z k => sh_bipush (v := 10) dc_Hall_thread_8 (by decide) k) ?_
  refine sh_ccall (fun w hw => sh_stat (As := [.int o, .int 0, .int 10]) dc_Hall_thread_10 lm_Hall_checkNumber ln_Hall_39 wd_191 wd_49 rfl rfl (Nat.le_of_ble_eq_true rfl)) (ct_Hall_checkNumber_2 (x := o) (lo := 0) (hi := 10) c0_10 c1_10) ⟨(Nat.le_of_ble_eq_true rfl), (Nat.le_of_ble_eq_true rfl), (Nat.le_of_ble_eq_true rfl), (Nat.le_of_ble_eq_true rfl)⟩ ?_
  show sh_cW _ _ (_, _, []) K L _ _ _ _ _
  refine sh_cp (fun w Z k => sh_iload_n dc_Hall_thread_13 rfl rfl k) ?_
  refine sh_cti c2_14 ?_
  refine sh_cp (fun w Z k => sh_tableIn (tgt := 53) dc_Hall_thread_14 (by decide) (by decide) rfl (by decide) k) ?_
  refine sh_cp (fun w Z k => sh_aload_n dc_Hall_thread_53 rfl rfl k) ?_
  refine sh_cget (10 + t) 3 dc_Hall_thread_54 (cw_ow (by omega)) rfl (by decide) fl_Hall_127 rfl rfl rfl rfl ?_
  exact sh_ce (fun w => sh_ireturn dc_Hall_thread_57 rfl rfl (by decide) (by decide))
theorem ct_Hall_thread_b_5 {A : Nat → Nat} {K : sh_II} {L : sh_DD} {t : Nat} {o : Int32} (ht : t < 6) (c0_10 : ¬ o < 0) (c1_10 : o ≤ 10) (c2_14 : o = 2) (c3_62 : (K 2 t) = 0) : sh_cM A md_Hall_thread [.ref (A 0), .int (nI t), .int o] K L (.inl (some (.int 0))) K L := by
  refine sh_cp (fun w Z k => sh_aload_n dc_Hall_thread_0 rfl rfl k) ?_
  refine sh_cp (fun w Z k => sh_iload_n dc_Hall_thread_1 rfl rfl k) ?_
  refine sh_ccall (fun w hw => sh_virt (As := [.int (nI t)]) dc_Hall_thread_2 lm_Hall_workerAt ln_Hall_62 wd_448 wd_3 rfl rfl (Nat.le_of_ble_eq_true rfl) (hw _ _ cw_o0) rfl) (ct_Hall_workerAt_1 (t := t) (by omega)) ⟨(Nat.le_of_ble_eq_true rfl), (Nat.le_of_ble_eq_true rfl), (Nat.le_of_ble_eq_true rfl), (Nat.le_of_ble_eq_true rfl)⟩ ?_
  show sh_cW _ _ (_, _, [.ref (A (10 + t))]) K L _ _ _ _ _
  refine sh_cp (fun w Z k => sh_astore_n dc_Hall_thread_5 rfl (by decide) k) ?_
  refine sh_cp (fun w Z k => sh_iload_n dc_Hall_thread_6 rfl rfl k) ?_
  refine sh_cp (fun w Z k => sh_iconst (v := 0) dc_Hall_thread_7 (by decide) k) ?_
  refine sh_cp (fun w Z k => sh_bipush (v := 10) dc_Hall_thread_8 (by decide) k) ?_
  refine sh_ccall (fun w hw => sh_stat (As := [.int o, .int 0, .int 10]) dc_Hall_thread_10 lm_Hall_checkNumber ln_Hall_39 wd_191 wd_49 rfl rfl (Nat.le_of_ble_eq_true rfl)) (ct_Hall_checkNumber_2 (x := o) (lo := 0) (hi := 10) c0_10 c1_10) ⟨(Nat.le_of_ble_eq_true rfl), (Nat.le_of_ble_eq_true rfl), (Nat.le_of_ble_eq_true rfl), (Nat.le_of_ble_eq_true rfl)⟩ ?_
  show sh_cW _ _ (_, _, []) K L _ _ _ _ _
  refine sh_cp (fun w Z k => sh_iload_n dc_Hall_thread_13 rfl rfl k) ?_
  refine sh_cti c2_14 ?_
  refine sh_cp (fun w Z k => sh_tableIn (tgt := 58) dc_Hall_thread_14 (by decide) (by decide) rfl (by decide) k) ?_
  refine sh_cp (fun w Z k => sh_aload_n dc_Hall_thread_58 rfl rfl k) ?_
  refine sh_cget (10 + t) 2 dc_Hall_thread_59 (cw_ow (by omega)) rfl (by decide) fl_Hall_183 rfl rfl rfl rfl ?_
  refine sh_cp (fun w Z k => sh_if_eq (tgt := 69) dc_Hall_thread_62 (by decide) (fun _ => k) (fun z => absurd c3_62 z)) ?_
  refine sh_cp (fun w Z k => sh_iconst (v := 0) dc_Hall_thread_69 (by decide) k) ?_
  exact sh_ce (fun w => sh_ireturn dc_Hall_thread_70 rfl rfl (by decide) (by decide))
theorem ct_Hall_thread_b_6 {A : Nat → Nat} {K : sh_II} {L : sh_DD} {t : Nat} {o : Int32} (ht : t < 6) (c0_10 : ¬ o < 0) (c1_10 : o ≤ 10) (c2_14 : o = 2) (c3_62 : ¬ (K 2 t) = 0) : sh_cM A md_Hall_thread [.ref (A 0), .int (nI t), .int o] K L (.inl (some (.int 1))) K L := by
  refine sh_cp (fun w Z k => sh_aload_n dc_Hall_thread_0 rfl rfl k) ?_
  refine sh_cp (fun w Z k => sh_iload_n dc_Hall_thread_1 rfl rfl k) ?_
  refine sh_ccall (fun w hw => sh_virt (As := [.int (nI t)]) dc_Hall_thread_2 lm_Hall_workerAt ln_Hall_62 wd_448 wd_3 rfl rfl (Nat.le_of_ble_eq_true rfl) (hw _ _ cw_o0) rfl) (ct_Hall_workerAt_1 (t := t) (by omega)) ⟨(Nat.le_of_ble_eq_true rfl), (Nat.le_of_ble_eq_true rfl), (Nat.le_of_ble_eq_true rfl), (Nat.le_of_ble_eq_true rfl)⟩ ?_
  show sh_cW _ _ (_, _, [.ref (A (10 + t))]) K L _ _ _ _ _
  refine sh_cp (fun w Z k => sh_astore_n dc_Hall_thread_5 rfl (by decide) k) ?_
  refine sh_cp (fun w Z k => sh_iload_n dc_Hall_thread_6 rfl rfl k) ?_
  refine sh_cp (fun w Z k => sh_iconst (v := 0) dc_Hall_thread_7 (by decide) k) ?_
  refine sh_cp (fun w Z k => sh_bipush (v := 10) dc_Hall_thread_8 (by decide) k) ?_
  refine sh_ccall (fun w hw => sh_stat (As := [.int o, .int 0, .int 10]) dc_Hall_thread_10 lm_Hall_checkNumber ln_Hall_39 wd_191 wd_49 rfl rfl (Nat.le_of_ble_eq_true rfl)) (ct_Hall_checkNumber_2 (x := o) (lo := 0) (hi := 10) c0_10 c1_10) ⟨(Nat.le_of_ble_eq_true rfl), (Nat.le_of_ble_eq_true rfl), (Nat.le_of_ble_eq_true rfl), (Nat.le_of_ble_eq_true rfl)⟩ ?_
  show sh_cW _ _ (_, _, []) K L _ _ _ _ _
  refine sh_cp (fun w Z k => sh_iload_n dc_Hall_thread_13 rfl rfl k) ?_
  refine sh_cti c2_14 ?_
  refine sh_cp (fun w Z k => sh_tableIn (tgt := 58) dc_Hall_thread_14 (by decide) (by decide) rfl (by decide) k) ?_
  refine sh_cp (fun w Z k => sh_aload_n dc_Hall_thread_58 rfl rfl k) ?_
  refine sh_cget (10 + t) 2 dc_Hall_thread_59 (cw_ow (by omega)) rfl (by decide) fl_Hall_183 rfl rfl rfl rfl ?_
  refine sh_cp (fun w Z k => sh_if_eq (tgt := 69) dc_Hall_thread_62 (by decide) (fun z => absurd z c3_62) (fun _ => k)) ?_
  refine sh_cp (fun w Z k => sh_iconst (v := 1) dc_Hall_thread_65 (by decide) k) ?_
  refine sh_cp (fun w Z k => sh_goto_ (tgt := 70) dc_Hall_thread_66 (by decide) k) ?_
  exact sh_ce (fun w => sh_ireturn dc_Hall_thread_70 rfl rfl (by decide) (by decide))
theorem ct_Hall_thread_b_7 {A : Nat → Nat} {K : sh_II} {L : sh_DD} {t : Nat} {o : Int32} (ht : t < 6) (c0_10 : ¬ o < 0) (c1_10 : ¬ o ≤ 10) : sh_cM A md_Hall_thread [.ref (A 0), .int (nI t), .int o] K L (.inr 1) K L := by
  refine sh_cp (fun w Z k => sh_aload_n dc_Hall_thread_0 rfl rfl k) ?_
  refine sh_cp (fun w Z k => sh_iload_n dc_Hall_thread_1 rfl rfl k) ?_
  refine sh_ccall (fun w hw => sh_virt (As := [.int (nI t)]) dc_Hall_thread_2 lm_Hall_workerAt ln_Hall_62 wd_448 wd_3 rfl rfl (Nat.le_of_ble_eq_true rfl) (hw _ _ cw_o0) rfl) (ct_Hall_workerAt_1 (t := t) (by omega)) ⟨(Nat.le_of_ble_eq_true rfl), (Nat.le_of_ble_eq_true rfl), (Nat.le_of_ble_eq_true rfl), (Nat.le_of_ble_eq_true rfl)⟩ ?_
  show sh_cW _ _ (_, _, [.ref (A (10 + t))]) K L _ _ _ _ _
  refine sh_cp (fun w Z k => sh_astore_n dc_Hall_thread_5 rfl (by decide) k) ?_
  refine sh_cp (fun w Z k => sh_iload_n dc_Hall_thread_6 rfl rfl k) ?_
  refine sh_cp (fun w Z k => sh_iconst (v := 0) dc_Hall_thread_7 (by decide) k) ?_
  refine sh_cp (fun w Z k => sh_bipush (v := 10) dc_Hall_thread_8 (by decide) k) ?_
  exact sh_ccallT (fun w hw => sh_stat (As := [.int o, .int 0, .int 10]) dc_Hall_thread_10 lm_Hall_checkNumber ln_Hall_39 wd_191 wd_49 rfl rfl (Nat.le_of_ble_eq_true rfl)) (ct_Hall_checkNumber_3 (x := o) (lo := 0) (hi := 10) c0_10 c1_10) ⟨(Nat.le_of_ble_eq_true rfl), (Nat.le_of_ble_eq_true rfl), (Nat.le_of_ble_eq_true rfl), (Nat.le_of_ble_eq_true rfl)⟩ rfl
theorem ct_Hall_thread_none_1 {A : Nat → Nat} {K : sh_II} {L : sh_DD} {t : Nat} {s : Nat} (ht : t < 6) (hs : s < 8) (hz0 : cw_cl (K 12 s) = 0) : sh_cM A md_Hall_thread [.ref (A 0), .int (nI t), .int (nI (s + 3))] K L (.inl (some (.int 0))) K L := by
  refine sh_cp (fun w Z k => sh_aload_n dc_Hall_thread_0 rfl rfl k) ?_
  refine sh_cp (fun w Z k => sh_iload_n dc_Hall_thread_1 rfl rfl k) ?_
  refine sh_ccall (fun w hw => sh_virt (As := [.int (nI t)]) dc_Hall_thread_2 lm_Hall_workerAt ln_Hall_62 wd_448 wd_3 rfl rfl (Nat.le_of_ble_eq_true rfl) (hw _ _ cw_o0) rfl) (ct_Hall_workerAt_1 (t := t) (by omega)) ⟨(Nat.le_of_ble_eq_true rfl), (Nat.le_of_ble_eq_true rfl), (Nat.le_of_ble_eq_true rfl), (Nat.le_of_ble_eq_true rfl)⟩ ?_
  show sh_cW _ _ (_, _, [.ref (A (10 + t))]) K L _ _ _ _ _
  refine sh_cp (fun w Z k => sh_astore_n dc_Hall_thread_5 rfl (by decide) k) ?_
  refine sh_cp (fun w Z k => sh_iload_n dc_Hall_thread_6 rfl rfl k) ?_
  refine sh_cp (fun w Z k => sh_iconst (v := 0) dc_Hall_thread_7 (by decide) k) ?_
  refine sh_cp (fun w Z k => sh_bipush (v := 10) dc_Hall_thread_8 (by decide) k) ?_
  refine sh_ccall (fun w hw => sh_stat (As := [.int (nI (s + 3)), .int 0, .int 10]) dc_Hall_thread_10 lm_Hall_checkNumber ln_Hall_39 wd_191 wd_49 rfl rfl (Nat.le_of_ble_eq_true rfl)) (ct_Hall_checkNumber_2 (x := nI (s + 3)) (lo := 0) (hi := 10) (nI_pos (by omega)) (sp_le10 hs)) ⟨(Nat.le_of_ble_eq_true rfl), (Nat.le_of_ble_eq_true rfl), (Nat.le_of_ble_eq_true rfl), (Nat.le_of_ble_eq_true rfl)⟩ ?_
  show sh_cW _ _ (_, _, []) K L _ _ _ _ _
  refine sh_cp (fun w Z k => sh_iload_n dc_Hall_thread_13 rfl rfl k) ?_
  refine sh_cp (fun w Z k => sh_tableOut (tgt := 71) dc_Hall_thread_14 (sp_gt2 hs) (by decide) k) ?_
  refine sh_cp (fun w Z k => sh_aload_n dc_Hall_thread_71 rfl rfl k) ?_
  refine sh_cget 0 1 dc_Hall_thread_72 cw_o0 rfl (by decide) fl_Hall_20 rfl rfl rfl rfl ?_
  refine sh_cp (fun w Z k => sh_iload_n dc_Hall_thread_75 rfl rfl k) ?_
  refine sh_cp (fun w Z k => sh_iconst (v := 3) dc_Hall_thread_76 (by decide) k) ?_
  refine sh_cp (fun w Z k => sh_isub dc_Hall_thread_77 k) ?_
  refine sh_caald 2 (k := s) dc_Hall_thread_78 cw_o2 rfl (sp_sub3 s) (by omega) (by decide) ?_
  refine sh_ctv (if_pos hz0) ?_
  refine sh_cp (fun w Z k => sh_astoreN dc_Hall_thread_79 (by decide) k) ?_
  refine sh_cp (fun w Z k => sh_aloadq (x := none) dc_Hall_thread_81 rfl k) ?_
  show sh_cW _ _ (_, _, .null :: _) _ _ _ _ _ _ _
  refine sh_cp (fun w Z k => sh_ifnonnullN dc_Hall_thread_83 k) ?_
  refine sh_cp (fun w Z k => sh_iconst (v := 0) dc_Hall_thread_86 (by decide) k) ?_
  refine sh_cp (fun w Z k => sh_goto_ (tgt := 96) dc_Hall_thread_87 (by decide) k) ?_
  exact sh_ce (fun w => sh_ireturn dc_Hall_thread_96 rfl rfl (by decide) (by decide))
theorem ct_Hall_thread_Lock_1 {A : Nat → Nat} {K : sh_II} {L : sh_DD} {t : Nat} {s : Nat} (ht : t < 6) (hs : s < 8) (hk_s : cw_cl (K 12 s) = 4) (c0_93 : (K 13 s) = -1) : sh_cM A md_Hall_thread [.ref (A 0), .int (nI t), .int (nI (s + 3))] K L (.inl (some (.int 0))) K L := by
  refine sh_cp (fun w Z k => sh_aload_n dc_Hall_thread_0 rfl rfl k) ?_
  refine sh_cp (fun w Z k => sh_iload_n dc_Hall_thread_1 rfl rfl k) ?_
  refine sh_ccall (fun w hw => sh_virt (As := [.int (nI t)]) dc_Hall_thread_2 lm_Hall_workerAt ln_Hall_62 wd_448 wd_3 rfl rfl (Nat.le_of_ble_eq_true rfl) (hw _ _ cw_o0) rfl) (ct_Hall_workerAt_1 (t := t) (by omega)) ⟨(Nat.le_of_ble_eq_true rfl), (Nat.le_of_ble_eq_true rfl), (Nat.le_of_ble_eq_true rfl), (Nat.le_of_ble_eq_true rfl)⟩ ?_
  show sh_cW _ _ (_, _, [.ref (A (10 + t))]) K L _ _ _ _ _
  refine sh_cp (fun w Z k => sh_astore_n dc_Hall_thread_5 rfl (by decide) k) ?_
  refine sh_cp (fun w Z k => sh_iload_n dc_Hall_thread_6 rfl rfl k) ?_
  refine sh_cp (fun w Z k => sh_iconst (v := 0) dc_Hall_thread_7 (by decide) k) ?_
  refine sh_cp (fun w Z k => sh_bipush (v := 10) dc_Hall_thread_8 (by decide) k) ?_
  refine sh_ccall (fun w hw => sh_stat (As := [.int (nI (s + 3)), .int 0, .int 10]) dc_Hall_thread_10 lm_Hall_checkNumber ln_Hall_39 wd_191 wd_49 rfl rfl (Nat.le_of_ble_eq_true rfl)) (ct_Hall_checkNumber_2 (x := nI (s + 3)) (lo := 0) (hi := 10) (nI_pos (by omega)) (sp_le10 hs)) ⟨(Nat.le_of_ble_eq_true rfl), (Nat.le_of_ble_eq_true rfl), (Nat.le_of_ble_eq_true rfl), (Nat.le_of_ble_eq_true rfl)⟩ ?_
  show sh_cW _ _ (_, _, []) K L _ _ _ _ _
  refine sh_cp (fun w Z k => sh_iload_n dc_Hall_thread_13 rfl rfl k) ?_
  refine sh_cp (fun w Z k => sh_tableOut (tgt := 71) dc_Hall_thread_14 (sp_gt2 hs) (by decide) k) ?_
  refine sh_cp (fun w Z k => sh_aload_n dc_Hall_thread_71 rfl rfl k) ?_
  refine sh_cget 0 1 dc_Hall_thread_72 cw_o0 rfl (by decide) fl_Hall_20 rfl rfl rfl rfl ?_
  refine sh_cp (fun w Z k => sh_iload_n dc_Hall_thread_75 rfl rfl k) ?_
  refine sh_cp (fun w Z k => sh_iconst (v := 3) dc_Hall_thread_76 (by decide) k) ?_
  refine sh_cp (fun w Z k => sh_isub dc_Hall_thread_77 k) ?_
  refine sh_caald 2 (k := s) dc_Hall_thread_78 cw_o2 rfl (sp_sub3 s) (by omega) (by decide) ?_
  refine sh_ctv (if_neg (cw_nz hk_s (by decide))) ?_
  refine sh_cp (fun w Z k => sh_astore dc_Hall_thread_79 (by decide) k) ?_
  refine sh_cp (fun w Z k => sh_aload dc_Hall_thread_81 rfl k) ?_
  refine sh_cp (fun w Z k => sh_ifnonnull (tgt := 90) dc_Hall_thread_83 (by decide) k) ?_
  refine sh_cp (fun w Z k => sh_aload dc_Hall_thread_90 rfl k) ?_
  refine sh_cp (fun w Z k => sh_aload_n dc_Hall_thread_92 rfl rfl k) ?_
  refine sh_ccall (fun w hw => sh_virtU (As := [.ref (A (10 + t))]) dc_Hall_thread_93 lm_Lock_holdOf wd_807 wd_1081 (Or.inl wd_504) ⟨by decide, by decide⟩ (by decide +kernel) wd_808 wd_1084 rfl rfl (Nat.le_of_ble_eq_true rfl) (hw _ _ (cw_ol (by omega) hk_s)) rfl) (ct_Lock_holdOf_1 (t := t) (s := s) (by omega) (by omega) hk_s c0_93) ⟨(Nat.le_of_ble_eq_true rfl), (Nat.le_of_ble_eq_true rfl), (Nat.le_of_ble_eq_true rfl), (Nat.le_of_ble_eq_true rfl)⟩ ?_
  show sh_cW _ _ (_, _, [.int 0]) K L _ _ _ _ _
  exact sh_ce (fun w => sh_ireturn dc_Hall_thread_96 rfl rfl (by decide) (by decide))
theorem ct_Hall_thread_Lock_2 {A : Nat → Nat} {K : sh_II} {L : sh_DD} {t : Nat} {s : Nat} {u13_93 : Nat} (ht : t < 6) (hs : s < 8) (hk_s : cw_cl (K 12 s) = 4) (hu13_93 : u13_93 < 6) (c1_93 : (K 13 s) = nI u13_93) (c2_93 : u13_93 = t) : sh_cM A md_Hall_thread [.ref (A 0), .int (nI t), .int (nI (s + 3))] K L (.inl (some (.int (K 14 s)))) K L := by
  refine sh_cp (fun w Z k => sh_aload_n dc_Hall_thread_0 rfl rfl k) ?_
  refine sh_cp (fun w Z k => sh_iload_n dc_Hall_thread_1 rfl rfl k) ?_
  refine sh_ccall (fun w hw => sh_virt (As := [.int (nI t)]) dc_Hall_thread_2 lm_Hall_workerAt ln_Hall_62 wd_448 wd_3 rfl rfl (Nat.le_of_ble_eq_true rfl) (hw _ _ cw_o0) rfl) (ct_Hall_workerAt_1 (t := t) (by omega)) ⟨(Nat.le_of_ble_eq_true rfl), (Nat.le_of_ble_eq_true rfl), (Nat.le_of_ble_eq_true rfl), (Nat.le_of_ble_eq_true rfl)⟩ ?_
  show sh_cW _ _ (_, _, [.ref (A (10 + t))]) K L _ _ _ _ _
  refine sh_cp (fun w Z k => sh_astore_n dc_Hall_thread_5 rfl (by decide) k) ?_
  refine sh_cp (fun w Z k => sh_iload_n dc_Hall_thread_6 rfl rfl k) ?_
  refine sh_cp (fun w Z k => sh_iconst (v := 0) dc_Hall_thread_7 (by decide) k) ?_
  refine sh_cp (fun w Z k => sh_bipush (v := 10) dc_Hall_thread_8 (by decide) k) ?_
  refine sh_ccall (fun w hw => sh_stat (As := [.int (nI (s + 3)), .int 0, .int 10]) dc_Hall_thread_10 lm_Hall_checkNumber ln_Hall_39 wd_191 wd_49 rfl rfl (Nat.le_of_ble_eq_true rfl)) (ct_Hall_checkNumber_2 (x := nI (s + 3)) (lo := 0) (hi := 10) (nI_pos (by omega)) (sp_le10 hs)) ⟨(Nat.le_of_ble_eq_true rfl), (Nat.le_of_ble_eq_true rfl), (Nat.le_of_ble_eq_true rfl), (Nat.le_of_ble_eq_true rfl)⟩ ?_
  show sh_cW _ _ (_, _, []) K L _ _ _ _ _
  refine sh_cp (fun w Z k => sh_iload_n dc_Hall_thread_13 rfl rfl k) ?_
  refine sh_cp (fun w Z k => sh_tableOut (tgt := 71) dc_Hall_thread_14 (sp_gt2 hs) (by decide) k) ?_
  refine sh_cp (fun w Z k => sh_aload_n dc_Hall_thread_71 rfl rfl k) ?_
  refine sh_cget 0 1 dc_Hall_thread_72 cw_o0 rfl (by decide) fl_Hall_20 rfl rfl rfl rfl ?_
  refine sh_cp (fun w Z k => sh_iload_n dc_Hall_thread_75 rfl rfl k) ?_
  refine sh_cp (fun w Z k => sh_iconst (v := 3) dc_Hall_thread_76 (by decide) k) ?_
  refine sh_cp (fun w Z k => sh_isub dc_Hall_thread_77 k) ?_
  refine sh_caald 2 (k := s) dc_Hall_thread_78 cw_o2 rfl (sp_sub3 s) (by omega) (by decide) ?_
  refine sh_ctv (if_neg (cw_nz hk_s (by decide))) ?_
  refine sh_cp (fun w Z k => sh_astore dc_Hall_thread_79 (by decide) k) ?_
  refine sh_cp (fun w Z k => sh_aload dc_Hall_thread_81 rfl k) ?_
  refine sh_cp (fun w Z k => sh_ifnonnull (tgt := 90) dc_Hall_thread_83 (by decide) k) ?_
  refine sh_cp (fun w Z k => sh_aload dc_Hall_thread_90 rfl k) ?_
  refine sh_cp (fun w Z k => sh_aload_n dc_Hall_thread_92 rfl rfl k) ?_
  refine sh_ccall (fun w hw => sh_virtU (As := [.ref (A (10 + t))]) dc_Hall_thread_93 lm_Lock_holdOf wd_807 wd_1081 (Or.inl wd_504) ⟨by decide, by decide⟩ (by decide +kernel) wd_808 wd_1084 rfl rfl (Nat.le_of_ble_eq_true rfl) (hw _ _ (cw_ol (by omega) hk_s)) rfl) (ct_Lock_holdOf_2 (t := t) (s := s) (u13_1 := u13_93) (by omega) (by omega) hk_s (by omega) c1_93 c2_93) ⟨(Nat.le_of_ble_eq_true rfl), (Nat.le_of_ble_eq_true rfl), (Nat.le_of_ble_eq_true rfl), (Nat.le_of_ble_eq_true rfl)⟩ ?_
  show sh_cW _ _ (_, _, [.int (K 14 s)]) K L _ _ _ _ _
  exact sh_ce (fun w => sh_ireturn dc_Hall_thread_96 rfl rfl (by decide) (by decide))
theorem ct_Hall_thread_Lock_3 {A : Nat → Nat} {K : sh_II} {L : sh_DD} {t : Nat} {s : Nat} {u13_93 : Nat} (ht : t < 6) (hs : s < 8) (hk_s : cw_cl (K 12 s) = 4) (hu13_93 : u13_93 < 6) (c1_93 : (K 13 s) = nI u13_93) (c2_93 : ¬ u13_93 = t) : sh_cM A md_Hall_thread [.ref (A 0), .int (nI t), .int (nI (s + 3))] K L (.inl (some (.int 0))) K L := by
  refine sh_cp (fun w Z k => sh_aload_n dc_Hall_thread_0 rfl rfl k) ?_
  refine sh_cp (fun w Z k => sh_iload_n dc_Hall_thread_1 rfl rfl k) ?_
  refine sh_ccall (fun w hw => sh_virt (As := [.int (nI t)]) dc_Hall_thread_2 lm_Hall_workerAt ln_Hall_62 wd_448 wd_3 rfl rfl (Nat.le_of_ble_eq_true rfl) (hw _ _ cw_o0) rfl) (ct_Hall_workerAt_1 (t := t) (by omega)) ⟨(Nat.le_of_ble_eq_true rfl), (Nat.le_of_ble_eq_true rfl), (Nat.le_of_ble_eq_true rfl), (Nat.le_of_ble_eq_true rfl)⟩ ?_
  show sh_cW _ _ (_, _, [.ref (A (10 + t))]) K L _ _ _ _ _
  refine sh_cp (fun w Z k => sh_astore_n dc_Hall_thread_5 rfl (by decide) k) ?_
  refine sh_cp (fun w Z k => sh_iload_n dc_Hall_thread_6 rfl rfl k) ?_
  refine sh_cp (fun w Z k => sh_iconst (v := 0) dc_Hall_thread_7 (by decide) k) ?_
  refine sh_cp (fun w Z k => sh_bipush (v := 10) dc_Hall_thread_8 (by decide) k) ?_
  refine sh_ccall (fun w hw => sh_stat (As := [.int (nI (s + 3)), .int 0, .int 10]) dc_Hall_thread_10 lm_Hall_checkNumber ln_Hall_39 wd_191 wd_49 rfl rfl (Nat.le_of_ble_eq_true rfl)) (ct_Hall_checkNumber_2 (x := nI (s + 3)) (lo := 0) (hi := 10) (nI_pos (by omega)) (sp_le10 hs)) ⟨(Nat.le_of_ble_eq_true rfl), (Nat.le_of_ble_eq_true rfl), (Nat.le_of_ble_eq_true rfl), (Nat.le_of_ble_eq_true rfl)⟩ ?_
  show sh_cW _ _ (_, _, []) K L _ _ _ _ _
  refine sh_cp (fun w Z k => sh_iload_n dc_Hall_thread_13 rfl rfl k) ?_
  refine sh_cp (fun w Z k => sh_tableOut (tgt := 71) dc_Hall_thread_14 (sp_gt2 hs) (by decide) k) ?_
  refine sh_cp (fun w Z k => sh_aload_n dc_Hall_thread_71 rfl rfl k) ?_
  refine sh_cget 0 1 dc_Hall_thread_72 cw_o0 rfl (by decide) fl_Hall_20 rfl rfl rfl rfl ?_
  refine sh_cp (fun w Z k => sh_iload_n dc_Hall_thread_75 rfl rfl k) ?_
  refine sh_cp (fun w Z k => sh_iconst (v := 3) dc_Hall_thread_76 (by decide) k) ?_
  refine sh_cp (fun w Z k => sh_isub dc_Hall_thread_77 k) ?_
  refine sh_caald 2 (k := s) dc_Hall_thread_78 cw_o2 rfl (sp_sub3 s) (by omega) (by decide) ?_
  refine sh_ctv (if_neg (cw_nz hk_s (by decide))) ?_
  refine sh_cp (fun w Z k => sh_astore dc_Hall_thread_79 (by decide) k) ?_
  refine sh_cp (fun w Z k => sh_aload dc_Hall_thread_81 rfl k) ?_
  refine sh_cp (fun w Z k => sh_ifnonnull (tgt := 90) dc_Hall_thread_83 (by decide) k) ?_
  refine sh_cp (fun w Z k => sh_aload dc_Hall_thread_90 rfl k) ?_
  refine sh_cp (fun w Z k => sh_aload_n dc_Hall_thread_92 rfl rfl k) ?_
  refine sh_ccall (fun w hw => sh_virtU (As := [.ref (A (10 + t))]) dc_Hall_thread_93 lm_Lock_holdOf wd_807 wd_1081 (Or.inl wd_504) ⟨by decide, by decide⟩ (by decide +kernel) wd_808 wd_1084 rfl rfl (Nat.le_of_ble_eq_true rfl) (hw _ _ (cw_ol (by omega) hk_s)) rfl) (ct_Lock_holdOf_3 (t := t) (s := s) (u13_1 := u13_93) (by omega) (by omega) hk_s (by omega) c1_93 c2_93) ⟨(Nat.le_of_ble_eq_true rfl), (Nat.le_of_ble_eq_true rfl), (Nat.le_of_ble_eq_true rfl), (Nat.le_of_ble_eq_true rfl)⟩ ?_
  show sh_cW _ _ (_, _, [.int 0]) K L _ _ _ _ _
  exact sh_ce (fun w => sh_ireturn dc_Hall_thread_96 rfl rfl (by decide) (by decide))
theorem ct_Hall_thread_Semaphore_1 {A : Nat → Nat} {K : sh_II} {L : sh_DD} {t : Nat} {s : Nat} (ht : t < 6) (hs : s < 8) (hk_s : cw_cl (K 12 s) = 5) : sh_cM A md_Hall_thread [.ref (A 0), .int (nI t), .int (nI (s + 3))] K L (.inl (some (.int 0))) K L := by
  refine sh_cp (fun w Z k => sh_aload_n dc_Hall_thread_0 rfl rfl k) ?_
  refine sh_cp (fun w Z k => sh_iload_n dc_Hall_thread_1 rfl rfl k) ?_
  refine sh_ccall (fun w hw => sh_virt (As := [.int (nI t)]) dc_Hall_thread_2 lm_Hall_workerAt ln_Hall_62 wd_448 wd_3 rfl rfl (Nat.le_of_ble_eq_true rfl) (hw _ _ cw_o0) rfl) (ct_Hall_workerAt_1 (t := t) (by omega)) ⟨(Nat.le_of_ble_eq_true rfl), (Nat.le_of_ble_eq_true rfl), (Nat.le_of_ble_eq_true rfl), (Nat.le_of_ble_eq_true rfl)⟩ ?_
  show sh_cW _ _ (_, _, [.ref (A (10 + t))]) K L _ _ _ _ _
  refine sh_cp (fun w Z k => sh_astore_n dc_Hall_thread_5 rfl (by decide) k) ?_
  refine sh_cp (fun w Z k => sh_iload_n dc_Hall_thread_6 rfl rfl k) ?_
  refine sh_cp (fun w Z k => sh_iconst (v := 0) dc_Hall_thread_7 (by decide) k) ?_
  refine sh_cp (fun w Z k => sh_bipush (v := 10) dc_Hall_thread_8 (by decide) k) ?_
  refine sh_ccall (fun w hw => sh_stat (As := [.int (nI (s + 3)), .int 0, .int 10]) dc_Hall_thread_10 lm_Hall_checkNumber ln_Hall_39 wd_191 wd_49 rfl rfl (Nat.le_of_ble_eq_true rfl)) (ct_Hall_checkNumber_2 (x := nI (s + 3)) (lo := 0) (hi := 10) (nI_pos (by omega)) (sp_le10 hs)) ⟨(Nat.le_of_ble_eq_true rfl), (Nat.le_of_ble_eq_true rfl), (Nat.le_of_ble_eq_true rfl), (Nat.le_of_ble_eq_true rfl)⟩ ?_
  show sh_cW _ _ (_, _, []) K L _ _ _ _ _
  refine sh_cp (fun w Z k => sh_iload_n dc_Hall_thread_13 rfl rfl k) ?_
  refine sh_cp (fun w Z k => sh_tableOut (tgt := 71) dc_Hall_thread_14 (sp_gt2 hs) (by decide) k) ?_
  refine sh_cp (fun w Z k => sh_aload_n dc_Hall_thread_71 rfl rfl k) ?_
  refine sh_cget 0 1 dc_Hall_thread_72 cw_o0 rfl (by decide) fl_Hall_20 rfl rfl rfl rfl ?_
  refine sh_cp (fun w Z k => sh_iload_n dc_Hall_thread_75 rfl rfl k) ?_
  refine sh_cp (fun w Z k => sh_iconst (v := 3) dc_Hall_thread_76 (by decide) k) ?_
  refine sh_cp (fun w Z k => sh_isub dc_Hall_thread_77 k) ?_
  refine sh_caald 2 (k := s) dc_Hall_thread_78 cw_o2 rfl (sp_sub3 s) (by omega) (by decide) ?_
  refine sh_ctv (if_neg (cw_nz hk_s (by decide))) ?_
  refine sh_cp (fun w Z k => sh_astore dc_Hall_thread_79 (by decide) k) ?_
  refine sh_cp (fun w Z k => sh_aload dc_Hall_thread_81 rfl k) ?_
  refine sh_cp (fun w Z k => sh_ifnonnull (tgt := 90) dc_Hall_thread_83 (by decide) k) ?_
  refine sh_cp (fun w Z k => sh_aload dc_Hall_thread_90 rfl k) ?_
  refine sh_cp (fun w Z k => sh_aload_n dc_Hall_thread_92 rfl rfl k) ?_
  refine sh_ccall (fun w hw => sh_virtU (As := [.ref (A (10 + t))]) dc_Hall_thread_93 lm_Sync_holdOf wd_807 wd_1081 (Or.inl wd_504) ⟨by decide, by decide⟩ (by decide +kernel) wd_509 wd_1085 rfl rfl (Nat.le_of_ble_eq_true rfl) (hw _ _ (cw_oe (by omega) hk_s)) rfl) (ct_Sync_holdOf_Semaphore_1 (t := t) (s := s) (by omega) (by omega) hk_s) ⟨(Nat.le_of_ble_eq_true rfl), (Nat.le_of_ble_eq_true rfl), (Nat.le_of_ble_eq_true rfl), (Nat.le_of_ble_eq_true rfl)⟩ ?_
  show sh_cW _ _ (_, _, [.int 0]) K L _ _ _ _ _
  exact sh_ce (fun w => sh_ireturn dc_Hall_thread_96 rfl rfl (by decide) (by decide))
theorem ct_Hall_thread_Latch_1 {A : Nat → Nat} {K : sh_II} {L : sh_DD} {t : Nat} {s : Nat} (ht : t < 6) (hs : s < 8) (hk_s : cw_cl (K 12 s) = 6) : sh_cM A md_Hall_thread [.ref (A 0), .int (nI t), .int (nI (s + 3))] K L (.inl (some (.int 0))) K L := by
  refine sh_cp (fun w Z k => sh_aload_n dc_Hall_thread_0 rfl rfl k) ?_
  refine sh_cp (fun w Z k => sh_iload_n dc_Hall_thread_1 rfl rfl k) ?_
  refine sh_ccall (fun w hw => sh_virt (As := [.int (nI t)]) dc_Hall_thread_2 lm_Hall_workerAt ln_Hall_62 wd_448 wd_3 rfl rfl (Nat.le_of_ble_eq_true rfl) (hw _ _ cw_o0) rfl) (ct_Hall_workerAt_1 (t := t) (by omega)) ⟨(Nat.le_of_ble_eq_true rfl), (Nat.le_of_ble_eq_true rfl), (Nat.le_of_ble_eq_true rfl), (Nat.le_of_ble_eq_true rfl)⟩ ?_
  show sh_cW _ _ (_, _, [.ref (A (10 + t))]) K L _ _ _ _ _
  refine sh_cp (fun w Z k => sh_astore_n dc_Hall_thread_5 rfl (by decide) k) ?_
  refine sh_cp (fun w Z k => sh_iload_n dc_Hall_thread_6 rfl rfl k) ?_
  refine sh_cp (fun w Z k => sh_iconst (v := 0) dc_Hall_thread_7 (by decide) k) ?_
  refine sh_cp (fun w Z k => sh_bipush (v := 10) dc_Hall_thread_8 (by decide) k) ?_
  refine sh_ccall (fun w hw => sh_stat (As := [.int (nI (s + 3)), .int 0, .int 10]) dc_Hall_thread_10 lm_Hall_checkNumber ln_Hall_39 wd_191 wd_49 rfl rfl (Nat.le_of_ble_eq_true rfl)) (ct_Hall_checkNumber_2 (x := nI (s + 3)) (lo := 0) (hi := 10) (nI_pos (by omega)) (sp_le10 hs)) ⟨(Nat.le_of_ble_eq_true rfl), (Nat.le_of_ble_eq_true rfl), (Nat.le_of_ble_eq_true rfl), (Nat.le_of_ble_eq_true rfl)⟩ ?_
  show sh_cW _ _ (_, _, []) K L _ _ _ _ _
  refine sh_cp (fun w Z k => sh_iload_n dc_Hall_thread_13 rfl rfl k) ?_
  refine sh_cp (fun w Z k => sh_tableOut (tgt := 71) dc_Hall_thread_14 (sp_gt2 hs) (by decide) k) ?_
  refine sh_cp (fun w Z k => sh_aload_n dc_Hall_thread_71 rfl rfl k) ?_
  refine sh_cget 0 1 dc_Hall_thread_72 cw_o0 rfl (by decide) fl_Hall_20 rfl rfl rfl rfl ?_
  refine sh_cp (fun w Z k => sh_iload_n dc_Hall_thread_75 rfl rfl k) ?_
  refine sh_cp (fun w Z k => sh_iconst (v := 3) dc_Hall_thread_76 (by decide) k) ?_
  refine sh_cp (fun w Z k => sh_isub dc_Hall_thread_77 k) ?_
  refine sh_caald 2 (k := s) dc_Hall_thread_78 cw_o2 rfl (sp_sub3 s) (by omega) (by decide) ?_
  refine sh_ctv (if_neg (cw_nz hk_s (by decide))) ?_
  refine sh_cp (fun w Z k => sh_astore dc_Hall_thread_79 (by decide) k) ?_
  refine sh_cp (fun w Z k => sh_aload dc_Hall_thread_81 rfl k) ?_
  refine sh_cp (fun w Z k => sh_ifnonnull (tgt := 90) dc_Hall_thread_83 (by decide) k) ?_
  refine sh_cp (fun w Z k => sh_aload dc_Hall_thread_90 rfl k) ?_
  refine sh_cp (fun w Z k => sh_aload_n dc_Hall_thread_92 rfl rfl k) ?_
  refine sh_ccall (fun w hw => sh_virtU (As := [.ref (A (10 + t))]) dc_Hall_thread_93 lm_Sync_holdOf wd_807 wd_1081 (Or.inl wd_504) ⟨by decide, by decide⟩ (by decide +kernel) wd_509 wd_1083 rfl rfl (Nat.le_of_ble_eq_true rfl) (hw _ _ (cw_oa (by omega) hk_s)) rfl) (ct_Sync_holdOf_Latch_1 (t := t) (s := s) (by omega) (by omega) hk_s) ⟨(Nat.le_of_ble_eq_true rfl), (Nat.le_of_ble_eq_true rfl), (Nat.le_of_ble_eq_true rfl), (Nat.le_of_ble_eq_true rfl)⟩ ?_
  show sh_cW _ _ (_, _, [.int 0]) K L _ _ _ _ _
  exact sh_ce (fun w => sh_ireturn dc_Hall_thread_96 rfl rfl (by decide) (by decide))
theorem ct_Hall_thread_Shared_1 {A : Nat → Nat} {K : sh_II} {L : sh_DD} {t : Nat} {s : Nat} (ht : t < 6) (hs : s < 8) (hk_s : cw_cl (K 12 s) = 7) (c0_93 : (K 13 s) = -1) : sh_cM A md_Hall_thread [.ref (A 0), .int (nI t), .int (nI (s + 3))] K L (.inl (some (.int (0 + (K 17 (6 * s + t)))))) K L := by
  refine sh_cp (fun w Z k => sh_aload_n dc_Hall_thread_0 rfl rfl k) ?_
  refine sh_cp (fun w Z k => sh_iload_n dc_Hall_thread_1 rfl rfl k) ?_
  refine sh_ccall (fun w hw => sh_virt (As := [.int (nI t)]) dc_Hall_thread_2 lm_Hall_workerAt ln_Hall_62 wd_448 wd_3 rfl rfl (Nat.le_of_ble_eq_true rfl) (hw _ _ cw_o0) rfl) (ct_Hall_workerAt_1 (t := t) (by omega)) ⟨(Nat.le_of_ble_eq_true rfl), (Nat.le_of_ble_eq_true rfl), (Nat.le_of_ble_eq_true rfl), (Nat.le_of_ble_eq_true rfl)⟩ ?_
  show sh_cW _ _ (_, _, [.ref (A (10 + t))]) K L _ _ _ _ _
  refine sh_cp (fun w Z k => sh_astore_n dc_Hall_thread_5 rfl (by decide) k) ?_
  refine sh_cp (fun w Z k => sh_iload_n dc_Hall_thread_6 rfl rfl k) ?_
  refine sh_cp (fun w Z k => sh_iconst (v := 0) dc_Hall_thread_7 (by decide) k) ?_
  refine sh_cp (fun w Z k => sh_bipush (v := 10) dc_Hall_thread_8 (by decide) k) ?_
  refine sh_ccall (fun w hw => sh_stat (As := [.int (nI (s + 3)), .int 0, .int 10]) dc_Hall_thread_10 lm_Hall_checkNumber ln_Hall_39 wd_191 wd_49 rfl rfl (Nat.le_of_ble_eq_true rfl)) (ct_Hall_checkNumber_2 (x := nI (s + 3)) (lo := 0) (hi := 10) (nI_pos (by omega)) (sp_le10 hs)) ⟨(Nat.le_of_ble_eq_true rfl), (Nat.le_of_ble_eq_true rfl), (Nat.le_of_ble_eq_true rfl), (Nat.le_of_ble_eq_true rfl)⟩ ?_
  show sh_cW _ _ (_, _, []) K L _ _ _ _ _
  refine sh_cp (fun w Z k => sh_iload_n dc_Hall_thread_13 rfl rfl k) ?_
  refine sh_cp (fun w Z k => sh_tableOut (tgt := 71) dc_Hall_thread_14 (sp_gt2 hs) (by decide) k) ?_
  refine sh_cp (fun w Z k => sh_aload_n dc_Hall_thread_71 rfl rfl k) ?_
  refine sh_cget 0 1 dc_Hall_thread_72 cw_o0 rfl (by decide) fl_Hall_20 rfl rfl rfl rfl ?_
  refine sh_cp (fun w Z k => sh_iload_n dc_Hall_thread_75 rfl rfl k) ?_
  refine sh_cp (fun w Z k => sh_iconst (v := 3) dc_Hall_thread_76 (by decide) k) ?_
  refine sh_cp (fun w Z k => sh_isub dc_Hall_thread_77 k) ?_
  refine sh_caald 2 (k := s) dc_Hall_thread_78 cw_o2 rfl (sp_sub3 s) (by omega) (by decide) ?_
  refine sh_ctv (if_neg (cw_nz hk_s (by decide))) ?_
  refine sh_cp (fun w Z k => sh_astore dc_Hall_thread_79 (by decide) k) ?_
  refine sh_cp (fun w Z k => sh_aload dc_Hall_thread_81 rfl k) ?_
  refine sh_cp (fun w Z k => sh_ifnonnull (tgt := 90) dc_Hall_thread_83 (by decide) k) ?_
  refine sh_cp (fun w Z k => sh_aload dc_Hall_thread_90 rfl k) ?_
  refine sh_cp (fun w Z k => sh_aload_n dc_Hall_thread_92 rfl rfl k) ?_
  refine sh_ccall (fun w hw => sh_virtU (As := [.ref (A (10 + t))]) dc_Hall_thread_93 lm_Shared_holdOf wd_807 wd_1081 (Or.inl wd_504) ⟨by decide, by decide⟩ (by decide +kernel) wd_810 wd_1086 rfl rfl (Nat.le_of_ble_eq_true rfl) (hw _ _ (cw_oh (by omega) hk_s)) rfl) (ct_Shared_holdOf_1 (t := t) (s := s) (by omega) (by omega) hk_s c0_93) ⟨(Nat.le_of_ble_eq_true rfl), (Nat.le_of_ble_eq_true rfl), (Nat.le_of_ble_eq_true rfl), (Nat.le_of_ble_eq_true rfl)⟩ ?_
  show sh_cW _ _ (_, _, [.int (0 + (K 17 (6 * s + t)))]) K L _ _ _ _ _
  exact sh_ce (fun w => sh_ireturn dc_Hall_thread_96 rfl rfl (by decide) (by decide))
theorem ct_Hall_thread_Shared_2 {A : Nat → Nat} {K : sh_II} {L : sh_DD} {t : Nat} {s : Nat} {u13_93 : Nat} (ht : t < 6) (hs : s < 8) (hk_s : cw_cl (K 12 s) = 7) (hu13_93 : u13_93 < 6) (c1_93 : (K 13 s) = nI u13_93) (c2_93 : u13_93 = t) : sh_cM A md_Hall_thread [.ref (A 0), .int (nI t), .int (nI (s + 3))] K L (.inl (some (.int ((K 14 s) + (K 17 (6 * s + t)))))) K L := by
  refine sh_cp (fun w Z k => sh_aload_n dc_Hall_thread_0 rfl rfl k) ?_
  refine sh_cp (fun w Z k => sh_iload_n dc_Hall_thread_1 rfl rfl k) ?_
  refine sh_ccall (fun w hw => sh_virt (As := [.int (nI t)]) dc_Hall_thread_2 lm_Hall_workerAt ln_Hall_62 wd_448 wd_3 rfl rfl (Nat.le_of_ble_eq_true rfl) (hw _ _ cw_o0) rfl) (ct_Hall_workerAt_1 (t := t) (by omega)) ⟨(Nat.le_of_ble_eq_true rfl), (Nat.le_of_ble_eq_true rfl), (Nat.le_of_ble_eq_true rfl), (Nat.le_of_ble_eq_true rfl)⟩ ?_
  show sh_cW _ _ (_, _, [.ref (A (10 + t))]) K L _ _ _ _ _
  refine sh_cp (fun w Z k => sh_astore_n dc_Hall_thread_5 rfl (by decide) k) ?_
  refine sh_cp (fun w Z k => sh_iload_n dc_Hall_thread_6 rfl rfl k) ?_
  refine sh_cp (fun w Z k => sh_iconst (v := 0) dc_Hall_thread_7 (by decide) k) ?_
  refine sh_cp (fun w Z k => sh_bipush (v := 10) dc_Hall_thread_8 (by decide) k) ?_
  refine sh_ccall (fun w hw => sh_stat (As := [.int (nI (s + 3)), .int 0, .int 10]) dc_Hall_thread_10 lm_Hall_checkNumber ln_Hall_39 wd_191 wd_49 rfl rfl (Nat.le_of_ble_eq_true rfl)) (ct_Hall_checkNumber_2 (x := nI (s + 3)) (lo := 0) (hi := 10) (nI_pos (by omega)) (sp_le10 hs)) ⟨(Nat.le_of_ble_eq_true rfl), (Nat.le_of_ble_eq_true rfl), (Nat.le_of_ble_eq_true rfl), (Nat.le_of_ble_eq_true rfl)⟩ ?_
  show sh_cW _ _ (_, _, []) K L _ _ _ _ _
  refine sh_cp (fun w Z k => sh_iload_n dc_Hall_thread_13 rfl rfl k) ?_
  refine sh_cp (fun w Z k => sh_tableOut (tgt := 71) dc_Hall_thread_14 (sp_gt2 hs) (by decide) k) ?_
  refine sh_cp (fun w Z k => sh_aload_n dc_Hall_thread_71 rfl rfl k) ?_
  refine sh_cget 0 1 dc_Hall_thread_72 cw_o0 rfl (by decide) fl_Hall_20 rfl rfl rfl rfl ?_
  refine sh_cp (fun w Z k => sh_iload_n dc_Hall_thread_75 rfl rfl k) ?_
  refine sh_cp (fun w Z k => sh_iconst (v := 3) dc_Hall_thread_76 (by decide) k) ?_
  refine sh_cp (fun w Z k => sh_isub dc_Hall_thread_77 k) ?_
  refine sh_caald 2 (k := s) dc_Hall_thread_78 cw_o2 rfl (sp_sub3 s) (by omega) (by decide) ?_
  refine sh_ctv (if_neg (cw_nz hk_s (by decide))) ?_
  refine sh_cp (fun w Z k => sh_astore dc_Hall_thread_79 (by decide) k) ?_
  refine sh_cp (fun w Z k => sh_aload dc_Hall_thread_81 rfl k) ?_
  refine sh_cp (fun w Z k => sh_ifnonnull (tgt := 90) dc_Hall_thread_83 (by decide) k) ?_
  refine sh_cp (fun w Z k => sh_aload dc_Hall_thread_90 rfl k) ?_
  refine sh_cp (fun w Z k => sh_aload_n dc_Hall_thread_92 rfl rfl k) ?_
  refine sh_ccall (fun w hw => sh_virtU (As := [.ref (A (10 + t))]) dc_Hall_thread_93 lm_Shared_holdOf wd_807 wd_1081 (Or.inl wd_504) ⟨by decide, by decide⟩ (by decide +kernel) wd_810 wd_1086 rfl rfl (Nat.le_of_ble_eq_true rfl) (hw _ _ (cw_oh (by omega) hk_s)) rfl) (ct_Shared_holdOf_2 (t := t) (s := s) (u13_1 := u13_93) (by omega) (by omega) hk_s (by omega) c1_93 c2_93) ⟨(Nat.le_of_ble_eq_true rfl), (Nat.le_of_ble_eq_true rfl), (Nat.le_of_ble_eq_true rfl), (Nat.le_of_ble_eq_true rfl)⟩ ?_
  show sh_cW _ _ (_, _, [.int ((K 14 s) + (K 17 (6 * s + t)))]) K L _ _ _ _ _
  exact sh_ce (fun w => sh_ireturn dc_Hall_thread_96 rfl rfl (by decide) (by decide))
theorem ct_Hall_thread_Shared_3 {A : Nat → Nat} {K : sh_II} {L : sh_DD} {t : Nat} {s : Nat} {u13_93 : Nat} (ht : t < 6) (hs : s < 8) (hk_s : cw_cl (K 12 s) = 7) (hu13_93 : u13_93 < 6) (c1_93 : (K 13 s) = nI u13_93) (c2_93 : ¬ u13_93 = t) : sh_cM A md_Hall_thread [.ref (A 0), .int (nI t), .int (nI (s + 3))] K L (.inl (some (.int (0 + (K 17 (6 * s + t)))))) K L := by
  refine sh_cp (fun w Z k => sh_aload_n dc_Hall_thread_0 rfl rfl k) ?_
  refine sh_cp (fun w Z k => sh_iload_n dc_Hall_thread_1 rfl rfl k) ?_
  refine sh_ccall (fun w hw => sh_virt (As := [.int (nI t)]) dc_Hall_thread_2 lm_Hall_workerAt ln_Hall_62 wd_448 wd_3 rfl rfl (Nat.le_of_ble_eq_true rfl) (hw _ _ cw_o0) rfl) (ct_Hall_workerAt_1 (t := t) (by omega)) ⟨(Nat.le_of_ble_eq_true rfl), (Nat.le_of_ble_eq_true rfl), (Nat.le_of_ble_eq_true rfl), (Nat.le_of_ble_eq_true rfl)⟩ ?_
  show sh_cW _ _ (_, _, [.ref (A (10 + t))]) K L _ _ _ _ _
  refine sh_cp (fun w Z k => sh_astore_n dc_Hall_thread_5 rfl (by decide) k) ?_
  refine sh_cp (fun w Z k => sh_iload_n dc_Hall_thread_6 rfl rfl k) ?_
  refine sh_cp (fun w Z k => sh_iconst (v := 0) dc_Hall_thread_7 (by decide) k) ?_
  refine sh_cp (fun w Z k => sh_bipush (v := 10) dc_Hall_thread_8 (by decide) k) ?_
  refine sh_ccall (fun w hw => sh_stat (As := [.int (nI (s + 3)), .int 0, .int 10]) dc_Hall_thread_10 lm_Hall_checkNumber ln_Hall_39 wd_191 wd_49 rfl rfl (Nat.le_of_ble_eq_true rfl)) (ct_Hall_checkNumber_2 (x := nI (s + 3)) (lo := 0) (hi := 10) (nI_pos (by omega)) (sp_le10 hs)) ⟨(Nat.le_of_ble_eq_true rfl), (Nat.le_of_ble_eq_true rfl), (Nat.le_of_ble_eq_true rfl), (Nat.le_of_ble_eq_true rfl)⟩ ?_
  show sh_cW _ _ (_, _, []) K L _ _ _ _ _
  refine sh_cp (fun w Z k => sh_iload_n dc_Hall_thread_13 rfl rfl k) ?_
  refine sh_cp (fun w Z k => sh_tableOut (tgt := 71) dc_Hall_thread_14 (sp_gt2 hs) (by decide) k) ?_
  refine sh_cp (fun w Z k => sh_aload_n dc_Hall_thread_71 rfl rfl k) ?_
  refine sh_cget 0 1 dc_Hall_thread_72 cw_o0 rfl (by decide) fl_Hall_20 rfl rfl rfl rfl ?_
  refine sh_cp (fun w Z k => sh_iload_n dc_Hall_thread_75 rfl rfl k) ?_
  refine sh_cp (fun w Z k => sh_iconst (v := 3) dc_Hall_thread_76 (by decide) k) ?_
  refine sh_cp (fun w Z k => sh_isub dc_Hall_thread_77 k) ?_
  refine sh_caald 2 (k := s) dc_Hall_thread_78 cw_o2 rfl (sp_sub3 s) (by omega) (by decide) ?_
  refine sh_ctv (if_neg (cw_nz hk_s (by decide))) ?_
  refine sh_cp (fun w Z k => sh_astore dc_Hall_thread_79 (by decide) k) ?_
  refine sh_cp (fun w Z k => sh_aload dc_Hall_thread_81 rfl k) ?_
  refine sh_cp (fun w Z k => sh_ifnonnull (tgt := 90) dc_Hall_thread_83 (by decide) k) ?_
  refine sh_cp (fun w Z k => sh_aload dc_Hall_thread_90 rfl k) ?_
  refine sh_cp (fun w Z k => sh_aload_n dc_Hall_thread_92 rfl rfl k) ?_
  refine sh_ccall (fun w hw => sh_virtU (As := [.ref (A (10 + t))]) dc_Hall_thread_93 lm_Shared_holdOf wd_807 wd_1081 (Or.inl wd_504) ⟨by decide, by decide⟩ (by decide +kernel) wd_810 wd_1086 rfl rfl (Nat.le_of_ble_eq_true rfl) (hw _ _ (cw_oh (by omega) hk_s)) rfl) (ct_Shared_holdOf_3 (t := t) (s := s) (u13_1 := u13_93) (by omega) (by omega) hk_s (by omega) c1_93 c2_93) ⟨(Nat.le_of_ble_eq_true rfl), (Nat.le_of_ble_eq_true rfl), (Nat.le_of_ble_eq_true rfl), (Nat.le_of_ble_eq_true rfl)⟩ ?_
  show sh_cW _ _ (_, _, [.int (0 + (K 17 (6 * s + t)))]) K L _ _ _ _ _
  exact sh_ce (fun w => sh_ireturn dc_Hall_thread_96 rfl rfl (by decide) (by decide))
theorem ct_Hall_thread_Condition_1 {A : Nat → Nat} {K : sh_II} {L : sh_DD} {t : Nat} {s : Nat} (ht : t < 6) (hs : s < 8) (hk_s : cw_cl (K 12 s) = 8) : sh_cM A md_Hall_thread [.ref (A 0), .int (nI t), .int (nI (s + 3))] K L (.inl (some (.int 0))) K L := by
  refine sh_cp (fun w Z k => sh_aload_n dc_Hall_thread_0 rfl rfl k) ?_
  refine sh_cp (fun w Z k => sh_iload_n dc_Hall_thread_1 rfl rfl k) ?_
  refine sh_ccall (fun w hw => sh_virt (As := [.int (nI t)]) dc_Hall_thread_2 lm_Hall_workerAt ln_Hall_62 wd_448 wd_3 rfl rfl (Nat.le_of_ble_eq_true rfl) (hw _ _ cw_o0) rfl) (ct_Hall_workerAt_1 (t := t) (by omega)) ⟨(Nat.le_of_ble_eq_true rfl), (Nat.le_of_ble_eq_true rfl), (Nat.le_of_ble_eq_true rfl), (Nat.le_of_ble_eq_true rfl)⟩ ?_
  show sh_cW _ _ (_, _, [.ref (A (10 + t))]) K L _ _ _ _ _
  refine sh_cp (fun w Z k => sh_astore_n dc_Hall_thread_5 rfl (by decide) k) ?_
  refine sh_cp (fun w Z k => sh_iload_n dc_Hall_thread_6 rfl rfl k) ?_
  refine sh_cp (fun w Z k => sh_iconst (v := 0) dc_Hall_thread_7 (by decide) k) ?_
  refine sh_cp (fun w Z k => sh_bipush (v := 10) dc_Hall_thread_8 (by decide) k) ?_
  refine sh_ccall (fun w hw => sh_stat (As := [.int (nI (s + 3)), .int 0, .int 10]) dc_Hall_thread_10 lm_Hall_checkNumber ln_Hall_39 wd_191 wd_49 rfl rfl (Nat.le_of_ble_eq_true rfl)) (ct_Hall_checkNumber_2 (x := nI (s + 3)) (lo := 0) (hi := 10) (nI_pos (by omega)) (sp_le10 hs)) ⟨(Nat.le_of_ble_eq_true rfl), (Nat.le_of_ble_eq_true rfl), (Nat.le_of_ble_eq_true rfl), (Nat.le_of_ble_eq_true rfl)⟩ ?_
  show sh_cW _ _ (_, _, []) K L _ _ _ _ _
  refine sh_cp (fun w Z k => sh_iload_n dc_Hall_thread_13 rfl rfl k) ?_
  refine sh_cp (fun w Z k => sh_tableOut (tgt := 71) dc_Hall_thread_14 (sp_gt2 hs) (by decide) k) ?_
  refine sh_cp (fun w Z k => sh_aload_n dc_Hall_thread_71 rfl rfl k) ?_
  refine sh_cget 0 1 dc_Hall_thread_72 cw_o0 rfl (by decide) fl_Hall_20 rfl rfl rfl rfl ?_
  refine sh_cp (fun w Z k => sh_iload_n dc_Hall_thread_75 rfl rfl k) ?_
  refine sh_cp (fun w Z k => sh_iconst (v := 3) dc_Hall_thread_76 (by decide) k) ?_
  refine sh_cp (fun w Z k => sh_isub dc_Hall_thread_77 k) ?_
  refine sh_caald 2 (k := s) dc_Hall_thread_78 cw_o2 rfl (sp_sub3 s) (by omega) (by decide) ?_
  refine sh_ctv (if_neg (cw_nz hk_s (by decide))) ?_
  refine sh_cp (fun w Z k => sh_astore dc_Hall_thread_79 (by decide) k) ?_
  refine sh_cp (fun w Z k => sh_aload dc_Hall_thread_81 rfl k) ?_
  refine sh_cp (fun w Z k => sh_ifnonnull (tgt := 90) dc_Hall_thread_83 (by decide) k) ?_
  refine sh_cp (fun w Z k => sh_aload dc_Hall_thread_90 rfl k) ?_
  refine sh_cp (fun w Z k => sh_aload_n dc_Hall_thread_92 rfl rfl k) ?_
  refine sh_ccall (fun w hw => sh_virtU (As := [.ref (A (10 + t))]) dc_Hall_thread_93 lm_Sync_holdOf wd_807 wd_1081 (Or.inl wd_504) ⟨by decide, by decide⟩ (by decide +kernel) wd_509 wd_1082 rfl rfl (Nat.le_of_ble_eq_true rfl) (hw _ _ (cw_oc (by omega) hk_s)) rfl) (ct_Sync_holdOf_Condition_1 (t := t) (s := s) (by omega) (by omega) hk_s) ⟨(Nat.le_of_ble_eq_true rfl), (Nat.le_of_ble_eq_true rfl), (Nat.le_of_ble_eq_true rfl), (Nat.le_of_ble_eq_true rfl)⟩ ?_
  show sh_cW _ _ (_, _, [.int 0]) K L _ _ _ _ _
  exact sh_ce (fun w => sh_ireturn dc_Hall_thread_96 rfl rfl (by decide) (by decide))
theorem ct_Hall_sync_x_1 {A : Nat → Nat} {K : sh_II} {L : sh_DD} {x : Int32} {o : Int32} (c0_4 : o < 0) : sh_cM A md_Hall_sync [.ref (A 0), .int x, .int o] K L (.inr 1) K L := by
  refine sh_cp (fun w Z k => sh_iload_n dc_Hall_sync_0 rfl rfl k) ?_
  refine sh_cp (fun w Z k => sh_iconst (v := 0) dc_Hall_sync_1 (by decide) k) ?_
  refine sh_cp (fun w Z k => sh_bipush (v := 8) dc_Hall_sync_2 (by decide) k) ?_
  exact sh_ccallT (fun w hw => sh_stat (As := [.int o, .int 0, .int 8]) dc_Hall_sync_4 lm_Hall_checkNumber ln_Hall_39 wd_191 wd_49 rfl rfl (Nat.le_of_ble_eq_true rfl)) (ct_Hall_checkNumber_1 (x := o) (lo := 0) (hi := 8) c0_4) ⟨(Nat.le_of_ble_eq_true rfl), (Nat.le_of_ble_eq_true rfl), (Nat.le_of_ble_eq_true rfl), (Nat.le_of_ble_eq_true rfl)⟩ rfl
theorem ct_Hall_sync_x_2 {A : Nat → Nat} {K : sh_II} {L : sh_DD} {x : Int32} {o : Int32} (c0_4 : ¬ o < 0) (c1_4 : o ≤ 8) (c2_9 : x < 0) : sh_cM A md_Hall_sync [.ref (A 0), .int x, .int o] K L (.inr 1) K L := by
  refine sh_cp (fun w Z k => sh_iload_n dc_Hall_sync_0 rfl rfl k) ?_
  refine sh_cp (fun w Z k => sh_iconst (v := 0) dc_Hall_sync_1 (by decide) k) ?_
  refine sh_cp (fun w Z k => sh_bipush (v := 8) dc_Hall_sync_2 (by decide) k) ?_
  refine sh_ccall (fun w hw => sh_stat (As := [.int o, .int 0, .int 8]) dc_Hall_sync_4 lm_Hall_checkNumber ln_Hall_39 wd_191 wd_49 rfl rfl (Nat.le_of_ble_eq_true rfl)) (ct_Hall_checkNumber_2 (x := o) (lo := 0) (hi := 8) c0_4 c1_4) ⟨(Nat.le_of_ble_eq_true rfl), (Nat.le_of_ble_eq_true rfl), (Nat.le_of_ble_eq_true rfl), (Nat.le_of_ble_eq_true rfl)⟩ ?_
  show sh_cW _ _ (_, _, []) K L _ _ _ _ _
  refine sh_cp (fun w Z k => sh_aload_n dc_Hall_sync_7 rfl rfl k) ?_
  refine sh_cp (fun w Z k => sh_iload_n dc_Hall_sync_8 rfl rfl k) ?_
  exact sh_ccallT (fun w hw => sh_virt (As := [.int x]) dc_Hall_sync_9 lm_Hall_syncAt ln_Hall_73 wd_272 wd_2 rfl rfl (Nat.le_of_ble_eq_true rfl) (hw _ _ cw_o0) rfl) (ct_Hall_syncAt_x_1 (x := x) c2_9) ⟨(Nat.le_of_ble_eq_true rfl), (Nat.le_of_ble_eq_true rfl), (Nat.le_of_ble_eq_true rfl), (Nat.le_of_ble_eq_true rfl)⟩ rfl
theorem ct_Hall_sync_x_3 {A : Nat → Nat} {K : sh_II} {L : sh_DD} {x : Int32} {o : Int32} (c0_4 : ¬ o < 0) (c1_4 : o ≤ 8) (c2_9 : ¬ x < 0) (c3_9 : ¬ x ≤ 7) : sh_cM A md_Hall_sync [.ref (A 0), .int x, .int o] K L (.inr 1) K L := by
  refine sh_cp (fun w Z k => sh_iload_n dc_Hall_sync_0 rfl rfl k) ?_
  refine sh_cp (fun w Z k => sh_iconst (v := 0) dc_Hall_sync_1 (by decide) k) ?_
  refine sh_cp (fun w Z k => sh_bipush (v := 8) dc_Hall_sync_2 (by decide) k) ?_
  refine sh_ccall (fun w hw => sh_stat (As := [.int o, .int 0, .int 8]) dc_Hall_sync_4 lm_Hall_checkNumber ln_Hall_39 wd_191 wd_49 rfl rfl (Nat.le_of_ble_eq_true rfl)) (ct_Hall_checkNumber_2 (x := o) (lo := 0) (hi := 8) c0_4 c1_4) ⟨(Nat.le_of_ble_eq_true rfl), (Nat.le_of_ble_eq_true rfl), (Nat.le_of_ble_eq_true rfl), (Nat.le_of_ble_eq_true rfl)⟩ ?_
  show sh_cW _ _ (_, _, []) K L _ _ _ _ _
  refine sh_cp (fun w Z k => sh_aload_n dc_Hall_sync_7 rfl rfl k) ?_
  refine sh_cp (fun w Z k => sh_iload_n dc_Hall_sync_8 rfl rfl k) ?_
  exact sh_ccallT (fun w hw => sh_virt (As := [.int x]) dc_Hall_sync_9 lm_Hall_syncAt ln_Hall_73 wd_272 wd_2 rfl rfl (Nat.le_of_ble_eq_true rfl) (hw _ _ cw_o0) rfl) (ct_Hall_syncAt_x_2 (x := x) c2_9 c3_9) ⟨(Nat.le_of_ble_eq_true rfl), (Nat.le_of_ble_eq_true rfl), (Nat.le_of_ble_eq_true rfl), (Nat.le_of_ble_eq_true rfl)⟩ rfl
theorem ct_Hall_sync_x_4 {A : Nat → Nat} {K : sh_II} {L : sh_DD} {x : Int32} {o : Int32} (c0_4 : ¬ o < 0) (c1_4 : ¬ o ≤ 8) : sh_cM A md_Hall_sync [.ref (A 0), .int x, .int o] K L (.inr 1) K L := by
  refine sh_cp (fun w Z k => sh_iload_n dc_Hall_sync_0 rfl rfl k) ?_
  refine sh_cp (fun w Z k => sh_iconst (v := 0) dc_Hall_sync_1 (by decide) k) ?_
  refine sh_cp (fun w Z k => sh_bipush (v := 8) dc_Hall_sync_2 (by decide) k) ?_
  exact sh_ccallT (fun w hw => sh_stat (As := [.int o, .int 0, .int 8]) dc_Hall_sync_4 lm_Hall_checkNumber ln_Hall_39 wd_191 wd_49 rfl rfl (Nat.le_of_ble_eq_true rfl)) (ct_Hall_checkNumber_3 (x := o) (lo := 0) (hi := 8) c0_4 c1_4) ⟨(Nat.le_of_ble_eq_true rfl), (Nat.le_of_ble_eq_true rfl), (Nat.le_of_ble_eq_true rfl), (Nat.le_of_ble_eq_true rfl)⟩ rfl
theorem ct_Hall_sync_none_1 {A : Nat → Nat} {K : sh_II} {L : sh_DD} {s : Nat} {o : Int32} (hs : s < 8) (hz0 : cw_cl (K 12 s) = 0) (c0_4 : o < 0) : sh_cM A md_Hall_sync [.ref (A 0), .int (nI s), .int o] K L (.inr 1) K L := by
  refine sh_cp (fun w Z k => sh_iload_n dc_Hall_sync_0 rfl rfl k) ?_
  refine sh_cp (fun w Z k => sh_iconst (v := 0) dc_Hall_sync_1 (by decide) k) ?_
  refine sh_cp (fun w Z k => sh_bipush (v := 8) dc_Hall_sync_2 (by decide) k) ?_
  exact sh_ccallT (fun w hw => sh_stat (As := [.int o, .int 0, .int 8]) dc_Hall_sync_4 lm_Hall_checkNumber ln_Hall_39 wd_191 wd_49 rfl rfl (Nat.le_of_ble_eq_true rfl)) (ct_Hall_checkNumber_1 (x := o) (lo := 0) (hi := 8) c0_4) ⟨(Nat.le_of_ble_eq_true rfl), (Nat.le_of_ble_eq_true rfl), (Nat.le_of_ble_eq_true rfl), (Nat.le_of_ble_eq_true rfl)⟩ rfl
theorem ct_Hall_sync_none_2 {A : Nat → Nat} {K : sh_II} {L : sh_DD} {s : Nat} {o : Int32} (hs : s < 8) (hz0 : cw_cl (K 12 s) = 0) (c0_4 : ¬ o < 0) (c1_4 : o ≤ 8) : sh_cM A md_Hall_sync [.ref (A 0), .int (nI s), .int o] K L (.inr 2) K L := by
  refine sh_cp (fun w Z k => sh_iload_n dc_Hall_sync_0 rfl rfl k) ?_
  refine sh_cp (fun w Z k => sh_iconst (v := 0) dc_Hall_sync_1 (by decide) k) ?_
  refine sh_cp (fun w Z k => sh_bipush (v := 8) dc_Hall_sync_2 (by decide) k) ?_
  refine sh_ccall (fun w hw => sh_stat (As := [.int o, .int 0, .int 8]) dc_Hall_sync_4 lm_Hall_checkNumber ln_Hall_39 wd_191 wd_49 rfl rfl (Nat.le_of_ble_eq_true rfl)) (ct_Hall_checkNumber_2 (x := o) (lo := 0) (hi := 8) c0_4 c1_4) ⟨(Nat.le_of_ble_eq_true rfl), (Nat.le_of_ble_eq_true rfl), (Nat.le_of_ble_eq_true rfl), (Nat.le_of_ble_eq_true rfl)⟩ ?_
  show sh_cW _ _ (_, _, []) K L _ _ _ _ _
  refine sh_cp (fun w Z k => sh_aload_n dc_Hall_sync_7 rfl rfl k) ?_
  refine sh_cp (fun w Z k => sh_iload_n dc_Hall_sync_8 rfl rfl k) ?_
  exact sh_ccallT (fun w hw => sh_virt (As := [.int (nI s)]) dc_Hall_sync_9 lm_Hall_syncAt ln_Hall_73 wd_272 wd_2 rfl rfl (Nat.le_of_ble_eq_true rfl) (hw _ _ cw_o0) rfl) (ct_Hall_syncAt_1 (s := s) (by omega) hz0) ⟨(Nat.le_of_ble_eq_true rfl), (Nat.le_of_ble_eq_true rfl), (Nat.le_of_ble_eq_true rfl), (Nat.le_of_ble_eq_true rfl)⟩ rfl
theorem ct_Hall_sync_none_3 {A : Nat → Nat} {K : sh_II} {L : sh_DD} {s : Nat} {o : Int32} (hs : s < 8) (hz0 : cw_cl (K 12 s) = 0) (c0_4 : ¬ o < 0) (c1_4 : ¬ o ≤ 8) : sh_cM A md_Hall_sync [.ref (A 0), .int (nI s), .int o] K L (.inr 1) K L := by
  refine sh_cp (fun w Z k => sh_iload_n dc_Hall_sync_0 rfl rfl k) ?_
  refine sh_cp (fun w Z k => sh_iconst (v := 0) dc_Hall_sync_1 (by decide) k) ?_
  refine sh_cp (fun w Z k => sh_bipush (v := 8) dc_Hall_sync_2 (by decide) k) ?_
  exact sh_ccallT (fun w hw => sh_stat (As := [.int o, .int 0, .int 8]) dc_Hall_sync_4 lm_Hall_checkNumber ln_Hall_39 wd_191 wd_49 rfl rfl (Nat.le_of_ble_eq_true rfl)) (ct_Hall_checkNumber_3 (x := o) (lo := 0) (hi := 8) c0_4 c1_4) ⟨(Nat.le_of_ble_eq_true rfl), (Nat.le_of_ble_eq_true rfl), (Nat.le_of_ble_eq_true rfl), (Nat.le_of_ble_eq_true rfl)⟩ rfl
theorem ct_Hall_sync_Lock_0_1 {A : Nat → Nat} {K : sh_II} {L : sh_DD} {s : Nat} (hs : s < 8) (hk_s : cw_cl (K 12 s) = 4) : sh_cM A md_Hall_sync [.ref (A 0), .int (nI s), .int 0] K L (.inl (some (.int (K 12 s)))) K L := by
  refine sh_cp (fun w Z k => sh_iload_n dc_Hall_sync_0 rfl rfl k) ?_
  refine sh_cp (fun w Z k => sh_iconst (v := 0) dc_Hall_sync_1 (by decide) k) ?_
  refine sh_cp (fun w Z k => sh_bipush (v := 8) dc_Hall_sync_2 (by decide) k) ?_
  refine sh_ccall (fun w hw => sh_stat (As := [.int 0, .int 0, .int 8]) dc_Hall_sync_4 lm_Hall_checkNumber ln_Hall_39 wd_191 wd_49 rfl rfl (Nat.le_of_ble_eq_true rfl)) (ct_Hall_checkNumber_2 (x := 0) (lo := 0) (hi := 8) (by decide) (by decide)) ⟨(Nat.le_of_ble_eq_true rfl), (Nat.le_of_ble_eq_true rfl), (Nat.le_of_ble_eq_true rfl), (Nat.le_of_ble_eq_true rfl)⟩ ?_
  show sh_cW _ _ (_, _, []) K L _ _ _ _ _
  refine sh_cp (fun w Z k => sh_aload_n dc_Hall_sync_7 rfl rfl k) ?_
  refine sh_cp (fun w Z k => sh_iload_n dc_Hall_sync_8 rfl rfl k) ?_
  refine sh_ccall (fun w hw => sh_virt (As := [.int (nI s)]) dc_Hall_sync_9 lm_Hall_syncAt ln_Hall_73 wd_272 wd_2 rfl rfl (Nat.le_of_ble_eq_true rfl) (hw _ _ cw_o0) rfl) (ct_Hall_syncAt_2 (s := s) (by omega) (cw_nz hk_s (by decide))) ⟨(Nat.le_of_ble_eq_true rfl), (Nat.le_of_ble_eq_true rfl), (Nat.le_of_ble_eq_true rfl), (Nat.le_of_ble_eq_true rfl)⟩ ?_
  show sh_cW _ _ (_, _, [.ref (A (20 + s))]) K L _ _ _ _ _
  refine sh_cp (fun w Z k => sh_astore_n dc_Hall_sync_12 rfl (by decide) k) ?_
  refine sh_cp (fun w Z k => sh_iload_n dc_Hall_sync_13 rfl rfl k) ?_
  refine sh_cp (fun w Z k => sh_lookup (off := 34) (tgt := 48) dc_Hall_sync_14 (by decide) (by decide) (by decide) k) ?_
  refine sh_cp (fun w Z k => sh_aload_n dc_Hall_sync_48 rfl rfl k) ?_
  refine sh_cget (20 + s) 0 dc_Hall_sync_49 (cw_ol (by omega) hk_s) rfl (by decide) fl_Hall_203 rfl rfl rfl rfl ?_
  exact sh_ce (fun w => sh_ireturn dc_Hall_sync_52 rfl rfl (by decide) (by decide))
theorem ct_Hall_sync_Lock_1_1 {A : Nat → Nat} {K : sh_II} {L : sh_DD} {s : Nat} (hs : s < 8) (hk_s : cw_cl (K 12 s) = 4) : sh_cM A md_Hall_sync [.ref (A 0), .int (nI s), .int 1] K L (.inl (some (.int (K 19 s)))) K L := by
  refine sh_cp (fun w Z k => sh_iload_n dc_Hall_sync_0 rfl rfl k) ?_
  refine sh_cp (fun w Z k => sh_iconst (v := 0) dc_Hall_sync_1 (by decide) k) ?_
  refine sh_cp (fun w Z k => sh_bipush (v := 8) dc_Hall_sync_2 (by decide) k) ?_
  refine sh_ccall (fun w hw => sh_stat (As := [.int 1, .int 0, .int 8]) dc_Hall_sync_4 lm_Hall_checkNumber ln_Hall_39 wd_191 wd_49 rfl rfl (Nat.le_of_ble_eq_true rfl)) (ct_Hall_checkNumber_2 (x := 1) (lo := 0) (hi := 8) (by decide) (by decide)) ⟨(Nat.le_of_ble_eq_true rfl), (Nat.le_of_ble_eq_true rfl), (Nat.le_of_ble_eq_true rfl), (Nat.le_of_ble_eq_true rfl)⟩ ?_
  show sh_cW _ _ (_, _, []) K L _ _ _ _ _
  refine sh_cp (fun w Z k => sh_aload_n dc_Hall_sync_7 rfl rfl k) ?_
  refine sh_cp (fun w Z k => sh_iload_n dc_Hall_sync_8 rfl rfl k) ?_
  refine sh_ccall (fun w hw => sh_virt (As := [.int (nI s)]) dc_Hall_sync_9 lm_Hall_syncAt ln_Hall_73 wd_272 wd_2 rfl rfl (Nat.le_of_ble_eq_true rfl) (hw _ _ cw_o0) rfl) (ct_Hall_syncAt_2 (s := s) (by omega) (cw_nz hk_s (by decide))) ⟨(Nat.le_of_ble_eq_true rfl), (Nat.le_of_ble_eq_true rfl), (Nat.le_of_ble_eq_true rfl), (Nat.le_of_ble_eq_true rfl)⟩ ?_
  show sh_cW _ _ (_, _, [.ref (A (20 + s))]) K L _ _ _ _ _
  refine sh_cp (fun w Z k => sh_astore_n dc_Hall_sync_12 rfl (by decide) k) ?_
  refine sh_cp (fun w Z k => sh_iload_n dc_Hall_sync_13 rfl rfl k) ?_
  refine sh_cp (fun w Z k => sh_lookup (off := 39) (tgt := 53) dc_Hall_sync_14 (by decide) (by decide) (by decide) k) ?_
  refine sh_cp (fun w Z k => sh_aload_n dc_Hall_sync_53 rfl rfl k) ?_
  refine sh_cget (20 + s) 1 dc_Hall_sync_54 (cw_ol (by omega) hk_s) rfl (by decide) fl_Hall_206 rfl rfl rfl rfl ?_
  refine sh_ccall (fun w hw => sh_virt (As := []) dc_Hall_sync_57 lm_Waiters_size ln_Hall_134 wd_552 wd_12 rfl rfl (Nat.le_of_ble_eq_true rfl) (hw _ _ (cw_ot (by omega) (cw_nz hk_s (by decide)))) rfl) (ct_Waiters_size_1 (s := s) (by omega) (cw_nz hk_s (by decide))) ⟨(Nat.le_of_ble_eq_true rfl), (Nat.le_of_ble_eq_true rfl), (Nat.le_of_ble_eq_true rfl), (Nat.le_of_ble_eq_true rfl)⟩ ?_
  show sh_cW _ _ (_, _, [.int (K 19 s)]) K L _ _ _ _ _
  exact sh_ce (fun w => sh_ireturn dc_Hall_sync_60 rfl rfl (by decide) (by decide))
theorem ct_Hall_sync_Lock_2_1 {A : Nat → Nat} {K : sh_II} {L : sh_DD} {s : Nat} (hs : s < 8) (hk_s : cw_cl (K 12 s) = 4) (c0_73 : (K 19 s) ≤ 0) : sh_cM A md_Hall_sync [.ref (A 0), .int (nI s), .int 2] K L (.inl (some (.int (-1)))) K L := by
  refine sh_cp (fun w Z k => sh_iload_n dc_Hall_sync_0 rfl rfl k) ?_
  refine sh_cp (fun w Z k => sh_iconst (v := 0) dc_Hall_sync_1 (by decide) k) ?_
  refine sh_cp (fun w Z k => sh_bipush (v := 8) dc_Hall_sync_2 (by decide) k) ?_
  refine sh_ccall (fun w hw => sh_stat (As := [.int 2, .int 0, .int 8]) dc_Hall_sync_4 lm_Hall_checkNumber ln_Hall_39 wd_191 wd_49 rfl rfl (Nat.le_of_ble_eq_true rfl)) (ct_Hall_checkNumber_2 (x := 2) (lo := 0) (hi := 8) (by decide) (by decide)) ⟨(Nat.le_of_ble_eq_true rfl), (Nat.le_of_ble_eq_true rfl), (Nat.le_of_ble_eq_true rfl), (Nat.le_of_ble_eq_true rfl)⟩ ?_
  show sh_cW _ _ (_, _, []) K L _ _ _ _ _
  refine sh_cp (fun w Z k => sh_aload_n dc_Hall_sync_7 rfl rfl k) ?_
  refine sh_cp (fun w Z k => sh_iload_n dc_Hall_sync_8 rfl rfl k) ?_
  refine sh_ccall (fun w hw => sh_virt (As := [.int (nI s)]) dc_Hall_sync_9 lm_Hall_syncAt ln_Hall_73 wd_272 wd_2 rfl rfl (Nat.le_of_ble_eq_true rfl) (hw _ _ cw_o0) rfl) (ct_Hall_syncAt_2 (s := s) (by omega) (cw_nz hk_s (by decide))) ⟨(Nat.le_of_ble_eq_true rfl), (Nat.le_of_ble_eq_true rfl), (Nat.le_of_ble_eq_true rfl), (Nat.le_of_ble_eq_true rfl)⟩ ?_
  show sh_cW _ _ (_, _, [.ref (A (20 + s))]) K L _ _ _ _ _
  refine sh_cp (fun w Z k => sh_astore_n dc_Hall_sync_12 rfl (by decide) k) ?_
  refine sh_cp (fun w Z k => sh_iload_n dc_Hall_sync_13 rfl rfl k) ?_
  refine sh_cp (fun w Z k => sh_lookup (off := 52) (tgt := 66) dc_Hall_sync_14 (by decide) (by decide) (by decide) k) ?_
  refine sh_cp (fun w Z k => sh_aload_n dc_Hall_sync_66 rfl rfl k) ?_
  refine sh_cget (20 + s) 1 dc_Hall_sync_67 (cw_ol (by omega) hk_s) rfl (by decide) fl_Hall_206 rfl rfl rfl rfl ?_
  refine sh_cp (fun w Z k => sh_iload_n dc_Hall_sync_70 rfl rfl k) ?_
  refine sh_cp (fun w Z k => sh_iconst (v := 2) dc_Hall_sync_71 (by decide) k) ?_
  refine sh_cp (fun w Z k => sh_isub dc_Hall_sync_72 k) ?_
  refine sh_cti (show (2 - 2 : Int32) = 0 from by decide) ?_
  refine sh_ccall (fun w hw => sh_virt (As := [.int 0]) dc_Hall_sync_73 lm_Waiters_at ln_Hall_210 wd_690 wd_22 rfl rfl (Nat.le_of_ble_eq_true rfl) (hw _ _ (cw_ot (by omega) (cw_nz hk_s (by decide)))) rfl) (ct_Waiters_at_0_1 (s := s) (by omega) (cw_nz hk_s (by decide)) c0_73) ⟨(Nat.le_of_ble_eq_true rfl), (Nat.le_of_ble_eq_true rfl), (Nat.le_of_ble_eq_true rfl), (Nat.le_of_ble_eq_true rfl)⟩ ?_
  show sh_cW _ _ (_, _, [.null]) K L _ _ _ _ _
  refine sh_cp (fun w Z k => sh_astoreN dc_Hall_sync_76 (by decide) k) ?_
  refine sh_cp (fun w Z k => sh_aloadq (x := none) dc_Hall_sync_78 rfl k) ?_
  show sh_cW _ _ (_, _, .null :: _) _ _ _ _ _ _ _
  refine sh_cp (fun w Z k => sh_ifnonnullN dc_Hall_sync_80 k) ?_
  refine sh_cp (fun w Z k => sh_iconst (v := (-1)) dc_Hall_sync_83 (by decide) k) ?_
  refine sh_cp (fun w Z k => sh_goto_ (tgt := 92) dc_Hall_sync_84 (by decide) k) ?_
  exact sh_ce (fun w => sh_ireturn dc_Hall_sync_92 rfl rfl (by decide) (by decide))
theorem ct_Hall_sync_Lock_2_2 {A : Nat → Nat} {K : sh_II} {L : sh_DD} {s : Nat} (hs : s < 8) (hk_s : cw_cl (K 12 s) = 4) (c0_73 : ¬ (K 19 s) ≤ 0) (c1_73 : (K 18 (6 * s + 0)) = -1) : sh_cM A md_Hall_sync [.ref (A 0), .int (nI s), .int 2] K L (.inl (some (.int (-1)))) K L := by
  refine sh_cp (fun w Z k => sh_iload_n dc_Hall_sync_0 rfl rfl k) ?_
  refine sh_cp (fun w Z k => sh_iconst (v := 0) dc_Hall_sync_1 (by decide) k) ?_
  refine sh_cp (fun w Z k => sh_bipush (v := 8) dc_Hall_sync_2 (by decide) k) ?_
  refine sh_ccall (fun w hw => sh_stat (As := [.int 2, .int 0, .int 8]) dc_Hall_sync_4 lm_Hall_checkNumber ln_Hall_39 wd_191 wd_49 rfl rfl (Nat.le_of_ble_eq_true rfl)) (ct_Hall_checkNumber_2 (x := 2) (lo := 0) (hi := 8) (by decide) (by decide)) ⟨(Nat.le_of_ble_eq_true rfl), (Nat.le_of_ble_eq_true rfl), (Nat.le_of_ble_eq_true rfl), (Nat.le_of_ble_eq_true rfl)⟩ ?_
  show sh_cW _ _ (_, _, []) K L _ _ _ _ _
  refine sh_cp (fun w Z k => sh_aload_n dc_Hall_sync_7 rfl rfl k) ?_
  refine sh_cp (fun w Z k => sh_iload_n dc_Hall_sync_8 rfl rfl k) ?_
  refine sh_ccall (fun w hw => sh_virt (As := [.int (nI s)]) dc_Hall_sync_9 lm_Hall_syncAt ln_Hall_73 wd_272 wd_2 rfl rfl (Nat.le_of_ble_eq_true rfl) (hw _ _ cw_o0) rfl) (ct_Hall_syncAt_2 (s := s) (by omega) (cw_nz hk_s (by decide))) ⟨(Nat.le_of_ble_eq_true rfl), (Nat.le_of_ble_eq_true rfl), (Nat.le_of_ble_eq_true rfl), (Nat.le_of_ble_eq_true rfl)⟩ ?_
  show sh_cW _ _ (_, _, [.ref (A (20 + s))]) K L _ _ _ _ _
  refine sh_cp (fun w Z k => sh_astore_n dc_Hall_sync_12 rfl (by decide) k) ?_
  refine sh_cp (fun w Z k => sh_iload_n dc_Hall_sync_13 rfl rfl k) ?_
  refine sh_cp (fun w Z k => sh_lookup (off := 52) (tgt := 66) dc_Hall_sync_14 (by decide) (by decide) (by decide) k) ?_
  refine sh_cp (fun w Z k => sh_aload_n dc_Hall_sync_66 rfl rfl k) ?_
  refine sh_cget (20 + s) 1 dc_Hall_sync_67 (cw_ol (by omega) hk_s) rfl (by decide) fl_Hall_206 rfl rfl rfl rfl ?_
  refine sh_cp (fun w Z k => sh_iload_n dc_Hall_sync_70 rfl rfl k) ?_
  refine sh_cp (fun w Z k => sh_iconst (v := 2) dc_Hall_sync_71 (by decide) k) ?_
  refine sh_cp (fun w Z k => sh_isub dc_Hall_sync_72 k) ?_
  refine sh_cti (show (2 - 2 : Int32) = 0 from by decide) ?_
  refine sh_ccall (fun w hw => sh_virt (As := [.int 0]) dc_Hall_sync_73 lm_Waiters_at ln_Hall_210 wd_690 wd_22 rfl rfl (Nat.le_of_ble_eq_true rfl) (hw _ _ (cw_ot (by omega) (cw_nz hk_s (by decide)))) rfl) (ct_Waiters_at_0_2 (s := s) (by omega) (cw_nz hk_s (by decide)) c0_73 c1_73) ⟨(Nat.le_of_ble_eq_true rfl), (Nat.le_of_ble_eq_true rfl), (Nat.le_of_ble_eq_true rfl), (Nat.le_of_ble_eq_true rfl)⟩ ?_
  show sh_cW _ _ (_, _, [.null]) K L _ _ _ _ _
  refine sh_cp (fun w Z k => sh_astoreN dc_Hall_sync_76 (by decide) k) ?_
  refine sh_cp (fun w Z k => sh_aloadq (x := none) dc_Hall_sync_78 rfl k) ?_
  show sh_cW _ _ (_, _, .null :: _) _ _ _ _ _ _ _
  refine sh_cp (fun w Z k => sh_ifnonnullN dc_Hall_sync_80 k) ?_
  refine sh_cp (fun w Z k => sh_iconst (v := (-1)) dc_Hall_sync_83 (by decide) k) ?_
  refine sh_cp (fun w Z k => sh_goto_ (tgt := 92) dc_Hall_sync_84 (by decide) k) ?_
  exact sh_ce (fun w => sh_ireturn dc_Hall_sync_92 rfl rfl (by decide) (by decide))
theorem ct_Hall_sync_Lock_2_3 {A : Nat → Nat} {K : sh_II} {L : sh_DD} {s : Nat} {u18_73 : Nat} (hs : s < 8) (hk_s : cw_cl (K 12 s) = 4) (c0_73 : ¬ (K 19 s) ≤ 0) (hu18_73 : u18_73 < 6) (c2_73 : (K 18 (6 * s + 0)) = nI u18_73) : sh_cM A md_Hall_sync [.ref (A 0), .int (nI s), .int 2] K L (.inl (some (.int (nI u18_73)))) K L := by
  refine sh_cp (fun w Z k => sh_iload_n dc_Hall_sync_0 rfl rfl k) ?_
  refine sh_cp (fun w Z k => sh_iconst (v := 0) dc_Hall_sync_1 (by decide) k) ?_
  refine sh_cp (fun w Z k => sh_bipush (v := 8) dc_Hall_sync_2 (by decide) k) ?_
  refine sh_ccall (fun w hw => sh_stat (As := [.int 2, .int 0, .int 8]) dc_Hall_sync_4 lm_Hall_checkNumber ln_Hall_39 wd_191 wd_49 rfl rfl (Nat.le_of_ble_eq_true rfl)) (ct_Hall_checkNumber_2 (x := 2) (lo := 0) (hi := 8) (by decide) (by decide)) ⟨(Nat.le_of_ble_eq_true rfl), (Nat.le_of_ble_eq_true rfl), (Nat.le_of_ble_eq_true rfl), (Nat.le_of_ble_eq_true rfl)⟩ ?_
  show sh_cW _ _ (_, _, []) K L _ _ _ _ _
  refine sh_cp (fun w Z k => sh_aload_n dc_Hall_sync_7 rfl rfl k) ?_
  refine sh_cp (fun w Z k => sh_iload_n dc_Hall_sync_8 rfl rfl k) ?_
  refine sh_ccall (fun w hw => sh_virt (As := [.int (nI s)]) dc_Hall_sync_9 lm_Hall_syncAt ln_Hall_73 wd_272 wd_2 rfl rfl (Nat.le_of_ble_eq_true rfl) (hw _ _ cw_o0) rfl) (ct_Hall_syncAt_2 (s := s) (by omega) (cw_nz hk_s (by decide))) ⟨(Nat.le_of_ble_eq_true rfl), (Nat.le_of_ble_eq_true rfl), (Nat.le_of_ble_eq_true rfl), (Nat.le_of_ble_eq_true rfl)⟩ ?_
  show sh_cW _ _ (_, _, [.ref (A (20 + s))]) K L _ _ _ _ _
  refine sh_cp (fun w Z k => sh_astore_n dc_Hall_sync_12 rfl (by decide) k) ?_
  refine sh_cp (fun w Z k => sh_iload_n dc_Hall_sync_13 rfl rfl k) ?_
  refine sh_cp (fun w Z k => sh_lookup (off := 52) (tgt := 66) dc_Hall_sync_14 (by decide) (by decide) (by decide) k) ?_
  refine sh_cp (fun w Z k => sh_aload_n dc_Hall_sync_66 rfl rfl k) ?_
  refine sh_cget (20 + s) 1 dc_Hall_sync_67 (cw_ol (by omega) hk_s) rfl (by decide) fl_Hall_206 rfl rfl rfl rfl ?_
  refine sh_cp (fun w Z k => sh_iload_n dc_Hall_sync_70 rfl rfl k) ?_
  refine sh_cp (fun w Z k => sh_iconst (v := 2) dc_Hall_sync_71 (by decide) k) ?_
  refine sh_cp (fun w Z k => sh_isub dc_Hall_sync_72 k) ?_
  refine sh_cti (show (2 - 2 : Int32) = 0 from by decide) ?_
  refine sh_ccall (fun w hw => sh_virt (As := [.int 0]) dc_Hall_sync_73 lm_Waiters_at ln_Hall_210 wd_690 wd_22 rfl rfl (Nat.le_of_ble_eq_true rfl) (hw _ _ (cw_ot (by omega) (cw_nz hk_s (by decide)))) rfl) (ct_Waiters_at_0_3 (s := s) (u18_17 := u18_73) (by omega) (cw_nz hk_s (by decide)) c0_73 (by omega) c2_73) ⟨(Nat.le_of_ble_eq_true rfl), (Nat.le_of_ble_eq_true rfl), (Nat.le_of_ble_eq_true rfl), (Nat.le_of_ble_eq_true rfl)⟩ ?_
  show sh_cW _ _ (_, _, [.ref (A (10 + u18_73))]) K L _ _ _ _ _
  refine sh_cp (fun w Z k => sh_astore dc_Hall_sync_76 (by decide) k) ?_
  refine sh_cp (fun w Z k => sh_aload dc_Hall_sync_78 rfl k) ?_
  refine sh_cp (fun w Z k => sh_ifnonnull (tgt := 87) dc_Hall_sync_80 (by decide) k) ?_
  refine sh_cp (fun w Z k => sh_aload dc_Hall_sync_87 rfl k) ?_
  refine sh_cget (10 + u18_73) 0 dc_Hall_sync_89 (cw_ow (by omega)) rfl (by decide) fl_Hall_213 rfl rfl rfl rfl ?_
  exact sh_ce (fun w => sh_ireturn dc_Hall_sync_92 rfl rfl (by decide) (by decide))
theorem ct_Hall_sync_Lock_3_1 {A : Nat → Nat} {K : sh_II} {L : sh_DD} {s : Nat} (hs : s < 8) (hk_s : cw_cl (K 12 s) = 4) (c0_73 : (K 19 s) ≤ (nI 1)) : sh_cM A md_Hall_sync [.ref (A 0), .int (nI s), .int 3] K L (.inl (some (.int (-1)))) K L := by
  refine sh_cp (fun w Z k => sh_iload_n dc_Hall_sync_0 rfl rfl k) ?_
  refine sh_cp (fun w Z k => sh_iconst (v := 0) dc_Hall_sync_1 (by decide) k) ?_
  refine sh_cp (fun w Z k => sh_bipush (v := 8) dc_Hall_sync_2 (by decide) k) ?_
  refine sh_ccall (fun w hw => sh_stat (As := [.int 3, .int 0, .int 8]) dc_Hall_sync_4 lm_Hall_checkNumber ln_Hall_39 wd_191 wd_49 rfl rfl (Nat.le_of_ble_eq_true rfl)) (ct_Hall_checkNumber_2 (x := 3) (lo := 0) (hi := 8) (by decide) (by decide)) ⟨(Nat.le_of_ble_eq_true rfl), (Nat.le_of_ble_eq_true rfl), (Nat.le_of_ble_eq_true rfl), (Nat.le_of_ble_eq_true rfl)⟩ ?_
  show sh_cW _ _ (_, _, []) K L _ _ _ _ _
  refine sh_cp (fun w Z k => sh_aload_n dc_Hall_sync_7 rfl rfl k) ?_
  refine sh_cp (fun w Z k => sh_iload_n dc_Hall_sync_8 rfl rfl k) ?_
  refine sh_ccall (fun w hw => sh_virt (As := [.int (nI s)]) dc_Hall_sync_9 lm_Hall_syncAt ln_Hall_73 wd_272 wd_2 rfl rfl (Nat.le_of_ble_eq_true rfl) (hw _ _ cw_o0) rfl) (ct_Hall_syncAt_2 (s := s) (by omega) (cw_nz hk_s (by decide))) ⟨(Nat.le_of_ble_eq_true rfl), (Nat.le_of_ble_eq_true rfl), (Nat.le_of_ble_eq_true rfl), (Nat.le_of_ble_eq_true rfl)⟩ ?_
  show sh_cW _ _ (_, _, [.ref (A (20 + s))]) K L _ _ _ _ _
  refine sh_cp (fun w Z k => sh_astore_n dc_Hall_sync_12 rfl (by decide) k) ?_
  refine sh_cp (fun w Z k => sh_iload_n dc_Hall_sync_13 rfl rfl k) ?_
  refine sh_cp (fun w Z k => sh_lookup (off := 52) (tgt := 66) dc_Hall_sync_14 (by decide) (by decide) (by decide) k) ?_
  refine sh_cp (fun w Z k => sh_aload_n dc_Hall_sync_66 rfl rfl k) ?_
  refine sh_cget (20 + s) 1 dc_Hall_sync_67 (cw_ol (by omega) hk_s) rfl (by decide) fl_Hall_206 rfl rfl rfl rfl ?_
  refine sh_cp (fun w Z k => sh_iload_n dc_Hall_sync_70 rfl rfl k) ?_
  refine sh_cp (fun w Z k => sh_iconst (v := 2) dc_Hall_sync_71 (by decide) k) ?_
  refine sh_cp (fun w Z k => sh_isub dc_Hall_sync_72 k) ?_
  refine sh_cti (show (3 - 2 : Int32) = 1 from by decide) ?_
  refine sh_ccall (fun w hw => sh_virt (As := [.int 1]) dc_Hall_sync_73 lm_Waiters_at ln_Hall_210 wd_690 wd_22 rfl rfl (Nat.le_of_ble_eq_true rfl) (hw _ _ (cw_ot (by omega) (cw_nz hk_s (by decide)))) rfl) (ct_Waiters_at_1 (s := s) (i := 1) (by omega) (cw_nz hk_s (by decide)) (by omega) c0_73) ⟨(Nat.le_of_ble_eq_true rfl), (Nat.le_of_ble_eq_true rfl), (Nat.le_of_ble_eq_true rfl), (Nat.le_of_ble_eq_true rfl)⟩ ?_
  show sh_cW _ _ (_, _, [.null]) K L _ _ _ _ _
  refine sh_cp (fun w Z k => sh_astoreN dc_Hall_sync_76 (by decide) k) ?_
  refine sh_cp (fun w Z k => sh_aloadq (x := none) dc_Hall_sync_78 rfl k) ?_
  show sh_cW _ _ (_, _, .null :: _) _ _ _ _ _ _ _
  refine sh_cp (fun w Z k => sh_ifnonnullN dc_Hall_sync_80 k) ?_
  refine sh_cp (fun w Z k => sh_iconst (v := (-1)) dc_Hall_sync_83 (by decide) k) ?_
  refine sh_cp (fun w Z k => sh_goto_ (tgt := 92) dc_Hall_sync_84 (by decide) k) ?_
  exact sh_ce (fun w => sh_ireturn dc_Hall_sync_92 rfl rfl (by decide) (by decide))
theorem ct_Hall_sync_Lock_3_2 {A : Nat → Nat} {K : sh_II} {L : sh_DD} {s : Nat} (hs : s < 8) (hk_s : cw_cl (K 12 s) = 4) (c0_73 : ¬ (K 19 s) ≤ (nI 1)) (c1_73 : (K 18 (6 * s + 1)) = -1) : sh_cM A md_Hall_sync [.ref (A 0), .int (nI s), .int 3] K L (.inl (some (.int (-1)))) K L := by
  refine sh_cp (fun w Z k => sh_iload_n dc_Hall_sync_0 rfl rfl k) ?_
  refine sh_cp (fun w Z k => sh_iconst (v := 0) dc_Hall_sync_1 (by decide) k) ?_
  refine sh_cp (fun w Z k => sh_bipush (v := 8) dc_Hall_sync_2 (by decide) k) ?_
  refine sh_ccall (fun w hw => sh_stat (As := [.int 3, .int 0, .int 8]) dc_Hall_sync_4 lm_Hall_checkNumber ln_Hall_39 wd_191 wd_49 rfl rfl (Nat.le_of_ble_eq_true rfl)) (ct_Hall_checkNumber_2 (x := 3) (lo := 0) (hi := 8) (by decide) (by decide)) ⟨(Nat.le_of_ble_eq_true rfl), (Nat.le_of_ble_eq_true rfl), (Nat.le_of_ble_eq_true rfl), (Nat.le_of_ble_eq_true rfl)⟩ ?_
  show sh_cW _ _ (_, _, []) K L _ _ _ _ _
  refine sh_cp (fun w Z k => sh_aload_n dc_Hall_sync_7 rfl rfl k) ?_
  refine sh_cp (fun w Z k => sh_iload_n dc_Hall_sync_8 rfl rfl k) ?_
  refine sh_ccall (fun w hw => sh_virt (As := [.int (nI s)]) dc_Hall_sync_9 lm_Hall_syncAt ln_Hall_73 wd_272 wd_2 rfl rfl (Nat.le_of_ble_eq_true rfl) (hw _ _ cw_o0) rfl) (ct_Hall_syncAt_2 (s := s) (by omega) (cw_nz hk_s (by decide))) ⟨(Nat.le_of_ble_eq_true rfl), (Nat.le_of_ble_eq_true rfl), (Nat.le_of_ble_eq_true rfl), (Nat.le_of_ble_eq_true rfl)⟩ ?_
  show sh_cW _ _ (_, _, [.ref (A (20 + s))]) K L _ _ _ _ _
  refine sh_cp (fun w Z k => sh_astore_n dc_Hall_sync_12 rfl (by decide) k) ?_
  refine sh_cp (fun w Z k => sh_iload_n dc_Hall_sync_13 rfl rfl k) ?_
  refine sh_cp (fun w Z k => sh_lookup (off := 52) (tgt := 66) dc_Hall_sync_14 (by decide) (by decide) (by decide) k) ?_
  refine sh_cp (fun w Z k => sh_aload_n dc_Hall_sync_66 rfl rfl k) ?_
  refine sh_cget (20 + s) 1 dc_Hall_sync_67 (cw_ol (by omega) hk_s) rfl (by decide) fl_Hall_206 rfl rfl rfl rfl ?_
  refine sh_cp (fun w Z k => sh_iload_n dc_Hall_sync_70 rfl rfl k) ?_
  refine sh_cp (fun w Z k => sh_iconst (v := 2) dc_Hall_sync_71 (by decide) k) ?_
  refine sh_cp (fun w Z k => sh_isub dc_Hall_sync_72 k) ?_
  refine sh_cti (show (3 - 2 : Int32) = 1 from by decide) ?_
  refine sh_ccall (fun w hw => sh_virt (As := [.int 1]) dc_Hall_sync_73 lm_Waiters_at ln_Hall_210 wd_690 wd_22 rfl rfl (Nat.le_of_ble_eq_true rfl) (hw _ _ (cw_ot (by omega) (cw_nz hk_s (by decide)))) rfl) (ct_Waiters_at_2 (s := s) (i := 1) (by omega) (cw_nz hk_s (by decide)) (by omega) c0_73 c1_73) ⟨(Nat.le_of_ble_eq_true rfl), (Nat.le_of_ble_eq_true rfl), (Nat.le_of_ble_eq_true rfl), (Nat.le_of_ble_eq_true rfl)⟩ ?_
  show sh_cW _ _ (_, _, [.null]) K L _ _ _ _ _
  refine sh_cp (fun w Z k => sh_astoreN dc_Hall_sync_76 (by decide) k) ?_
  refine sh_cp (fun w Z k => sh_aloadq (x := none) dc_Hall_sync_78 rfl k) ?_
  show sh_cW _ _ (_, _, .null :: _) _ _ _ _ _ _ _
  refine sh_cp (fun w Z k => sh_ifnonnullN dc_Hall_sync_80 k) ?_
  refine sh_cp (fun w Z k => sh_iconst (v := (-1)) dc_Hall_sync_83 (by decide) k) ?_
  refine sh_cp (fun w Z k => sh_goto_ (tgt := 92) dc_Hall_sync_84 (by decide) k) ?_
  exact sh_ce (fun w => sh_ireturn dc_Hall_sync_92 rfl rfl (by decide) (by decide))
theorem ct_Hall_sync_Lock_3_3 {A : Nat → Nat} {K : sh_II} {L : sh_DD} {s : Nat} {u18_73 : Nat} (hs : s < 8) (hk_s : cw_cl (K 12 s) = 4) (c0_73 : ¬ (K 19 s) ≤ (nI 1)) (hu18_73 : u18_73 < 6) (c2_73 : (K 18 (6 * s + 1)) = nI u18_73) : sh_cM A md_Hall_sync [.ref (A 0), .int (nI s), .int 3] K L (.inl (some (.int (nI u18_73)))) K L := by
  refine sh_cp (fun w Z k => sh_iload_n dc_Hall_sync_0 rfl rfl k) ?_
  refine sh_cp (fun w Z k => sh_iconst (v := 0) dc_Hall_sync_1 (by decide) k) ?_
  refine sh_cp (fun w Z k => sh_bipush (v := 8) dc_Hall_sync_2 (by decide) k) ?_
  refine sh_ccall (fun w hw => sh_stat (As := [.int 3, .int 0, .int 8]) dc_Hall_sync_4 lm_Hall_checkNumber ln_Hall_39 wd_191 wd_49 rfl rfl (Nat.le_of_ble_eq_true rfl)) (ct_Hall_checkNumber_2 (x := 3) (lo := 0) (hi := 8) (by decide) (by decide)) ⟨(Nat.le_of_ble_eq_true rfl), (Nat.le_of_ble_eq_true rfl), (Nat.le_of_ble_eq_true rfl), (Nat.le_of_ble_eq_true rfl)⟩ ?_
  show sh_cW _ _ (_, _, []) K L _ _ _ _ _
  refine sh_cp (fun w Z k => sh_aload_n dc_Hall_sync_7 rfl rfl k) ?_
  refine sh_cp (fun w Z k => sh_iload_n dc_Hall_sync_8 rfl rfl k) ?_
  refine sh_ccall (fun w hw => sh_virt (As := [.int (nI s)]) dc_Hall_sync_9 lm_Hall_syncAt ln_Hall_73 wd_272 wd_2 rfl rfl (Nat.le_of_ble_eq_true rfl) (hw _ _ cw_o0) rfl) (ct_Hall_syncAt_2 (s := s) (by omega) (cw_nz hk_s (by decide))) ⟨(Nat.le_of_ble_eq_true rfl), (Nat.le_of_ble_eq_true rfl), (Nat.le_of_ble_eq_true rfl), (Nat.le_of_ble_eq_true rfl)⟩ ?_
  show sh_cW _ _ (_, _, [.ref (A (20 + s))]) K L _ _ _ _ _
  refine sh_cp (fun w Z k => sh_astore_n dc_Hall_sync_12 rfl (by decide) k) ?_
  refine sh_cp (fun w Z k => sh_iload_n dc_Hall_sync_13 rfl rfl k) ?_
  refine sh_cp (fun w Z k => sh_lookup (off := 52) (tgt := 66) dc_Hall_sync_14 (by decide) (by decide) (by decide) k) ?_
  refine sh_cp (fun w Z k => sh_aload_n dc_Hall_sync_66 rfl rfl k) ?_
  refine sh_cget (20 + s) 1 dc_Hall_sync_67 (cw_ol (by omega) hk_s) rfl (by decide) fl_Hall_206 rfl rfl rfl rfl ?_
  refine sh_cp (fun w Z k => sh_iload_n dc_Hall_sync_70 rfl rfl k) ?_
  refine sh_cp (fun w Z k => sh_iconst (v := 2) dc_Hall_sync_71 (by decide) k) ?_
  refine sh_cp (fun w Z k => sh_isub dc_Hall_sync_72 k) ?_
  refine sh_cti (show (3 - 2 : Int32) = 1 from by decide) ?_
  refine sh_ccall (fun w hw => sh_virt (As := [.int 1]) dc_Hall_sync_73 lm_Waiters_at ln_Hall_210 wd_690 wd_22 rfl rfl (Nat.le_of_ble_eq_true rfl) (hw _ _ (cw_ot (by omega) (cw_nz hk_s (by decide)))) rfl) (ct_Waiters_at_3 (s := s) (i := 1) (u18_17 := u18_73) (by omega) (cw_nz hk_s (by decide)) (by omega) c0_73 (by omega) c2_73) ⟨(Nat.le_of_ble_eq_true rfl), (Nat.le_of_ble_eq_true rfl), (Nat.le_of_ble_eq_true rfl), (Nat.le_of_ble_eq_true rfl)⟩ ?_
  show sh_cW _ _ (_, _, [.ref (A (10 + u18_73))]) K L _ _ _ _ _
  refine sh_cp (fun w Z k => sh_astore dc_Hall_sync_76 (by decide) k) ?_
  refine sh_cp (fun w Z k => sh_aload dc_Hall_sync_78 rfl k) ?_
  refine sh_cp (fun w Z k => sh_ifnonnull (tgt := 87) dc_Hall_sync_80 (by decide) k) ?_
  refine sh_cp (fun w Z k => sh_aload dc_Hall_sync_87 rfl k) ?_
  refine sh_cget (10 + u18_73) 0 dc_Hall_sync_89 (cw_ow (by omega)) rfl (by decide) fl_Hall_213 rfl rfl rfl rfl ?_
  exact sh_ce (fun w => sh_ireturn dc_Hall_sync_92 rfl rfl (by decide) (by decide))
theorem ct_Hall_sync_Lock_4_1 {A : Nat → Nat} {K : sh_II} {L : sh_DD} {s : Nat} (hs : s < 8) (hk_s : cw_cl (K 12 s) = 4) (c0_73 : (K 19 s) ≤ (nI 2)) : sh_cM A md_Hall_sync [.ref (A 0), .int (nI s), .int 4] K L (.inl (some (.int (-1)))) K L := by
  refine sh_cp (fun w Z k => sh_iload_n dc_Hall_sync_0 rfl rfl k) ?_
  refine sh_cp (fun w Z k => sh_iconst (v := 0) dc_Hall_sync_1 (by decide) k) ?_
  refine sh_cp (fun w Z k => sh_bipush (v := 8) dc_Hall_sync_2 (by decide) k) ?_
  refine sh_ccall (fun w hw => sh_stat (As := [.int 4, .int 0, .int 8]) dc_Hall_sync_4 lm_Hall_checkNumber ln_Hall_39 wd_191 wd_49 rfl rfl (Nat.le_of_ble_eq_true rfl)) (ct_Hall_checkNumber_2 (x := 4) (lo := 0) (hi := 8) (by decide) (by decide)) ⟨(Nat.le_of_ble_eq_true rfl), (Nat.le_of_ble_eq_true rfl), (Nat.le_of_ble_eq_true rfl), (Nat.le_of_ble_eq_true rfl)⟩ ?_
  show sh_cW _ _ (_, _, []) K L _ _ _ _ _
  refine sh_cp (fun w Z k => sh_aload_n dc_Hall_sync_7 rfl rfl k) ?_
  refine sh_cp (fun w Z k => sh_iload_n dc_Hall_sync_8 rfl rfl k) ?_
  refine sh_ccall (fun w hw => sh_virt (As := [.int (nI s)]) dc_Hall_sync_9 lm_Hall_syncAt ln_Hall_73 wd_272 wd_2 rfl rfl (Nat.le_of_ble_eq_true rfl) (hw _ _ cw_o0) rfl) (ct_Hall_syncAt_2 (s := s) (by omega) (cw_nz hk_s (by decide))) ⟨(Nat.le_of_ble_eq_true rfl), (Nat.le_of_ble_eq_true rfl), (Nat.le_of_ble_eq_true rfl), (Nat.le_of_ble_eq_true rfl)⟩ ?_
  show sh_cW _ _ (_, _, [.ref (A (20 + s))]) K L _ _ _ _ _
  refine sh_cp (fun w Z k => sh_astore_n dc_Hall_sync_12 rfl (by decide) k) ?_
  refine sh_cp (fun w Z k => sh_iload_n dc_Hall_sync_13 rfl rfl k) ?_
  refine sh_cp (fun w Z k => sh_lookup (off := 52) (tgt := 66) dc_Hall_sync_14 (by decide) (by decide) (by decide) k) ?_
  refine sh_cp (fun w Z k => sh_aload_n dc_Hall_sync_66 rfl rfl k) ?_
  refine sh_cget (20 + s) 1 dc_Hall_sync_67 (cw_ol (by omega) hk_s) rfl (by decide) fl_Hall_206 rfl rfl rfl rfl ?_
  refine sh_cp (fun w Z k => sh_iload_n dc_Hall_sync_70 rfl rfl k) ?_
  refine sh_cp (fun w Z k => sh_iconst (v := 2) dc_Hall_sync_71 (by decide) k) ?_
  refine sh_cp (fun w Z k => sh_isub dc_Hall_sync_72 k) ?_
  refine sh_cti (show (4 - 2 : Int32) = 2 from by decide) ?_
  refine sh_ccall (fun w hw => sh_virt (As := [.int 2]) dc_Hall_sync_73 lm_Waiters_at ln_Hall_210 wd_690 wd_22 rfl rfl (Nat.le_of_ble_eq_true rfl) (hw _ _ (cw_ot (by omega) (cw_nz hk_s (by decide)))) rfl) (ct_Waiters_at_1 (s := s) (i := 2) (by omega) (cw_nz hk_s (by decide)) (by omega) c0_73) ⟨(Nat.le_of_ble_eq_true rfl), (Nat.le_of_ble_eq_true rfl), (Nat.le_of_ble_eq_true rfl), (Nat.le_of_ble_eq_true rfl)⟩ ?_
  show sh_cW _ _ (_, _, [.null]) K L _ _ _ _ _
  refine sh_cp (fun w Z k => sh_astoreN dc_Hall_sync_76 (by decide) k) ?_
  refine sh_cp (fun w Z k => sh_aloadq (x := none) dc_Hall_sync_78 rfl k) ?_
  show sh_cW _ _ (_, _, .null :: _) _ _ _ _ _ _ _
  refine sh_cp (fun w Z k => sh_ifnonnullN dc_Hall_sync_80 k) ?_
  refine sh_cp (fun w Z k => sh_iconst (v := (-1)) dc_Hall_sync_83 (by decide) k) ?_
  refine sh_cp (fun w Z k => sh_goto_ (tgt := 92) dc_Hall_sync_84 (by decide) k) ?_
  exact sh_ce (fun w => sh_ireturn dc_Hall_sync_92 rfl rfl (by decide) (by decide))
theorem ct_Hall_sync_Lock_4_2 {A : Nat → Nat} {K : sh_II} {L : sh_DD} {s : Nat} (hs : s < 8) (hk_s : cw_cl (K 12 s) = 4) (c0_73 : ¬ (K 19 s) ≤ (nI 2)) (c1_73 : (K 18 (6 * s + 2)) = -1) : sh_cM A md_Hall_sync [.ref (A 0), .int (nI s), .int 4] K L (.inl (some (.int (-1)))) K L := by
  refine sh_cp (fun w Z k => sh_iload_n dc_Hall_sync_0 rfl rfl k) ?_
  refine sh_cp (fun w Z k => sh_iconst (v := 0) dc_Hall_sync_1 (by decide) k) ?_
  refine sh_cp (fun w Z k => sh_bipush (v := 8) dc_Hall_sync_2 (by decide) k) ?_
  refine sh_ccall (fun w hw => sh_stat (As := [.int 4, .int 0, .int 8]) dc_Hall_sync_4 lm_Hall_checkNumber ln_Hall_39 wd_191 wd_49 rfl rfl (Nat.le_of_ble_eq_true rfl)) (ct_Hall_checkNumber_2 (x := 4) (lo := 0) (hi := 8) (by decide) (by decide)) ⟨(Nat.le_of_ble_eq_true rfl), (Nat.le_of_ble_eq_true rfl), (Nat.le_of_ble_eq_true rfl), (Nat.le_of_ble_eq_true rfl)⟩ ?_
  show sh_cW _ _ (_, _, []) K L _ _ _ _ _
  refine sh_cp (fun w Z k => sh_aload_n dc_Hall_sync_7 rfl rfl k) ?_
  refine sh_cp (fun w Z k => sh_iload_n dc_Hall_sync_8 rfl rfl k) ?_
  refine sh_ccall (fun w hw => sh_virt (As := [.int (nI s)]) dc_Hall_sync_9 lm_Hall_syncAt ln_Hall_73 wd_272 wd_2 rfl rfl (Nat.le_of_ble_eq_true rfl) (hw _ _ cw_o0) rfl) (ct_Hall_syncAt_2 (s := s) (by omega) (cw_nz hk_s (by decide))) ⟨(Nat.le_of_ble_eq_true rfl), (Nat.le_of_ble_eq_true rfl), (Nat.le_of_ble_eq_true rfl), (Nat.le_of_ble_eq_true rfl)⟩ ?_
  show sh_cW _ _ (_, _, [.ref (A (20 + s))]) K L _ _ _ _ _
  refine sh_cp (fun w Z k => sh_astore_n dc_Hall_sync_12 rfl (by decide) k) ?_
  refine sh_cp (fun w Z k => sh_iload_n dc_Hall_sync_13 rfl rfl k) ?_
  refine sh_cp (fun w Z k => sh_lookup (off := 52) (tgt := 66) dc_Hall_sync_14 (by decide) (by decide) (by decide) k) ?_
  refine sh_cp (fun w Z k => sh_aload_n dc_Hall_sync_66 rfl rfl k) ?_
  refine sh_cget (20 + s) 1 dc_Hall_sync_67 (cw_ol (by omega) hk_s) rfl (by decide) fl_Hall_206 rfl rfl rfl rfl ?_
  refine sh_cp (fun w Z k => sh_iload_n dc_Hall_sync_70 rfl rfl k) ?_
  refine sh_cp (fun w Z k => sh_iconst (v := 2) dc_Hall_sync_71 (by decide) k) ?_
  refine sh_cp (fun w Z k => sh_isub dc_Hall_sync_72 k) ?_
  refine sh_cti (show (4 - 2 : Int32) = 2 from by decide) ?_
  refine sh_ccall (fun w hw => sh_virt (As := [.int 2]) dc_Hall_sync_73 lm_Waiters_at ln_Hall_210 wd_690 wd_22 rfl rfl (Nat.le_of_ble_eq_true rfl) (hw _ _ (cw_ot (by omega) (cw_nz hk_s (by decide)))) rfl) (ct_Waiters_at_2 (s := s) (i := 2) (by omega) (cw_nz hk_s (by decide)) (by omega) c0_73 c1_73) ⟨(Nat.le_of_ble_eq_true rfl), (Nat.le_of_ble_eq_true rfl), (Nat.le_of_ble_eq_true rfl), (Nat.le_of_ble_eq_true rfl)⟩ ?_
  show sh_cW _ _ (_, _, [.null]) K L _ _ _ _ _
  refine sh_cp (fun w Z k => sh_astoreN dc_Hall_sync_76 (by decide) k) ?_
  refine sh_cp (fun w Z k => sh_aloadq (x := none) dc_Hall_sync_78 rfl k) ?_
  show sh_cW _ _ (_, _, .null :: _) _ _ _ _ _ _ _
  refine sh_cp (fun w Z k => sh_ifnonnullN dc_Hall_sync_80 k) ?_
  refine sh_cp (fun w Z k => sh_iconst (v := (-1)) dc_Hall_sync_83 (by decide) k) ?_
  refine sh_cp (fun w Z k => sh_goto_ (tgt := 92) dc_Hall_sync_84 (by decide) k) ?_
  exact sh_ce (fun w => sh_ireturn dc_Hall_sync_92 rfl rfl (by decide) (by decide))
theorem ct_Hall_sync_Lock_4_3 {A : Nat → Nat} {K : sh_II} {L : sh_DD} {s : Nat} {u18_73 : Nat} (hs : s < 8) (hk_s : cw_cl (K 12 s) = 4) (c0_73 : ¬ (K 19 s) ≤ (nI 2)) (hu18_73 : u18_73 < 6) (c2_73 : (K 18 (6 * s + 2)) = nI u18_73) : sh_cM A md_Hall_sync [.ref (A 0), .int (nI s), .int 4] K L (.inl (some (.int (nI u18_73)))) K L := by
  refine sh_cp (fun w Z k => sh_iload_n dc_Hall_sync_0 rfl rfl k) ?_
  refine sh_cp (fun w Z k => sh_iconst (v := 0) dc_Hall_sync_1 (by decide) k) ?_
  refine sh_cp (fun w Z k => sh_bipush (v := 8) dc_Hall_sync_2 (by decide) k) ?_
  refine sh_ccall (fun w hw => sh_stat (As := [.int 4, .int 0, .int 8]) dc_Hall_sync_4 lm_Hall_checkNumber ln_Hall_39 wd_191 wd_49 rfl rfl (Nat.le_of_ble_eq_true rfl)) (ct_Hall_checkNumber_2 (x := 4) (lo := 0) (hi := 8) (by decide) (by decide)) ⟨(Nat.le_of_ble_eq_true rfl), (Nat.le_of_ble_eq_true rfl), (Nat.le_of_ble_eq_true rfl), (Nat.le_of_ble_eq_true rfl)⟩ ?_
  show sh_cW _ _ (_, _, []) K L _ _ _ _ _
  refine sh_cp (fun w Z k => sh_aload_n dc_Hall_sync_7 rfl rfl k) ?_
  refine sh_cp (fun w Z k => sh_iload_n dc_Hall_sync_8 rfl rfl k) ?_
  refine sh_ccall (fun w hw => sh_virt (As := [.int (nI s)]) dc_Hall_sync_9 lm_Hall_syncAt ln_Hall_73 wd_272 wd_2 rfl rfl (Nat.le_of_ble_eq_true rfl) (hw _ _ cw_o0) rfl) (ct_Hall_syncAt_2 (s := s) (by omega) (cw_nz hk_s (by decide))) ⟨(Nat.le_of_ble_eq_true rfl), (Nat.le_of_ble_eq_true rfl), (Nat.le_of_ble_eq_true rfl), (Nat.le_of_ble_eq_true rfl)⟩ ?_
  show sh_cW _ _ (_, _, [.ref (A (20 + s))]) K L _ _ _ _ _
  refine sh_cp (fun w Z k => sh_astore_n dc_Hall_sync_12 rfl (by decide) k) ?_
  refine sh_cp (fun w Z k => sh_iload_n dc_Hall_sync_13 rfl rfl k) ?_
  refine sh_cp (fun w Z k => sh_lookup (off := 52) (tgt := 66) dc_Hall_sync_14 (by decide) (by decide) (by decide) k) ?_
  refine sh_cp (fun w Z k => sh_aload_n dc_Hall_sync_66 rfl rfl k) ?_
  refine sh_cget (20 + s) 1 dc_Hall_sync_67 (cw_ol (by omega) hk_s) rfl (by decide) fl_Hall_206 rfl rfl rfl rfl ?_
  refine sh_cp (fun w Z k => sh_iload_n dc_Hall_sync_70 rfl rfl k) ?_
  refine sh_cp (fun w Z k => sh_iconst (v := 2) dc_Hall_sync_71 (by decide) k) ?_
  refine sh_cp (fun w Z k => sh_isub dc_Hall_sync_72 k) ?_
  refine sh_cti (show (4 - 2 : Int32) = 2 from by decide) ?_
  refine sh_ccall (fun w hw => sh_virt (As := [.int 2]) dc_Hall_sync_73 lm_Waiters_at ln_Hall_210 wd_690 wd_22 rfl rfl (Nat.le_of_ble_eq_true rfl) (hw _ _ (cw_ot (by omega) (cw_nz hk_s (by decide)))) rfl) (ct_Waiters_at_3 (s := s) (i := 2) (u18_17 := u18_73) (by omega) (cw_nz hk_s (by decide)) (by omega) c0_73 (by omega) c2_73) ⟨(Nat.le_of_ble_eq_true rfl), (Nat.le_of_ble_eq_true rfl), (Nat.le_of_ble_eq_true rfl), (Nat.le_of_ble_eq_true rfl)⟩ ?_
  show sh_cW _ _ (_, _, [.ref (A (10 + u18_73))]) K L _ _ _ _ _
  refine sh_cp (fun w Z k => sh_astore dc_Hall_sync_76 (by decide) k) ?_
  refine sh_cp (fun w Z k => sh_aload dc_Hall_sync_78 rfl k) ?_
  refine sh_cp (fun w Z k => sh_ifnonnull (tgt := 87) dc_Hall_sync_80 (by decide) k) ?_
  refine sh_cp (fun w Z k => sh_aload dc_Hall_sync_87 rfl k) ?_
  refine sh_cget (10 + u18_73) 0 dc_Hall_sync_89 (cw_ow (by omega)) rfl (by decide) fl_Hall_213 rfl rfl rfl rfl ?_
  exact sh_ce (fun w => sh_ireturn dc_Hall_sync_92 rfl rfl (by decide) (by decide))
theorem ct_Hall_sync_Lock_5_1 {A : Nat → Nat} {K : sh_II} {L : sh_DD} {s : Nat} (hs : s < 8) (hk_s : cw_cl (K 12 s) = 4) (c0_73 : (K 19 s) ≤ (nI 3)) : sh_cM A md_Hall_sync [.ref (A 0), .int (nI s), .int 5] K L (.inl (some (.int (-1)))) K L := by
  refine sh_cp (fun w Z k => sh_iload_n dc_Hall_sync_0 rfl rfl k) ?_
  refine sh_cp (fun w Z k => sh_iconst (v := 0) dc_Hall_sync_1 (by decide) k) ?_
  refine sh_cp (fun w Z k => sh_bipush (v := 8) dc_Hall_sync_2 (by decide) k) ?_
  refine sh_ccall (fun w hw => sh_stat (As := [.int 5, .int 0, .int 8]) dc_Hall_sync_4 lm_Hall_checkNumber ln_Hall_39 wd_191 wd_49 rfl rfl (Nat.le_of_ble_eq_true rfl)) (ct_Hall_checkNumber_2 (x := 5) (lo := 0) (hi := 8) (by decide) (by decide)) ⟨(Nat.le_of_ble_eq_true rfl), (Nat.le_of_ble_eq_true rfl), (Nat.le_of_ble_eq_true rfl), (Nat.le_of_ble_eq_true rfl)⟩ ?_
  show sh_cW _ _ (_, _, []) K L _ _ _ _ _
  refine sh_cp (fun w Z k => sh_aload_n dc_Hall_sync_7 rfl rfl k) ?_
  refine sh_cp (fun w Z k => sh_iload_n dc_Hall_sync_8 rfl rfl k) ?_
  refine sh_ccall (fun w hw => sh_virt (As := [.int (nI s)]) dc_Hall_sync_9 lm_Hall_syncAt ln_Hall_73 wd_272 wd_2 rfl rfl (Nat.le_of_ble_eq_true rfl) (hw _ _ cw_o0) rfl) (ct_Hall_syncAt_2 (s := s) (by omega) (cw_nz hk_s (by decide))) ⟨(Nat.le_of_ble_eq_true rfl), (Nat.le_of_ble_eq_true rfl), (Nat.le_of_ble_eq_true rfl), (Nat.le_of_ble_eq_true rfl)⟩ ?_
  show sh_cW _ _ (_, _, [.ref (A (20 + s))]) K L _ _ _ _ _
  refine sh_cp (fun w Z k => sh_astore_n dc_Hall_sync_12 rfl (by decide) k) ?_
  refine sh_cp (fun w Z k => sh_iload_n dc_Hall_sync_13 rfl rfl k) ?_
  refine sh_cp (fun w Z k => sh_lookup (off := 52) (tgt := 66) dc_Hall_sync_14 (by decide) (by decide) (by decide) k) ?_
  refine sh_cp (fun w Z k => sh_aload_n dc_Hall_sync_66 rfl rfl k) ?_
  refine sh_cget (20 + s) 1 dc_Hall_sync_67 (cw_ol (by omega) hk_s) rfl (by decide) fl_Hall_206 rfl rfl rfl rfl ?_
  refine sh_cp (fun w Z k => sh_iload_n dc_Hall_sync_70 rfl rfl k) ?_
  refine sh_cp (fun w Z k => sh_iconst (v := 2) dc_Hall_sync_71 (by decide) k) ?_
  refine sh_cp (fun w Z k => sh_isub dc_Hall_sync_72 k) ?_
  refine sh_cti (show (5 - 2 : Int32) = 3 from by decide) ?_
  refine sh_ccall (fun w hw => sh_virt (As := [.int 3]) dc_Hall_sync_73 lm_Waiters_at ln_Hall_210 wd_690 wd_22 rfl rfl (Nat.le_of_ble_eq_true rfl) (hw _ _ (cw_ot (by omega) (cw_nz hk_s (by decide)))) rfl) (ct_Waiters_at_1 (s := s) (i := 3) (by omega) (cw_nz hk_s (by decide)) (by omega) c0_73) ⟨(Nat.le_of_ble_eq_true rfl), (Nat.le_of_ble_eq_true rfl), (Nat.le_of_ble_eq_true rfl), (Nat.le_of_ble_eq_true rfl)⟩ ?_
  show sh_cW _ _ (_, _, [.null]) K L _ _ _ _ _
  refine sh_cp (fun w Z k => sh_astoreN dc_Hall_sync_76 (by decide) k) ?_
  refine sh_cp (fun w Z k => sh_aloadq (x := none) dc_Hall_sync_78 rfl k) ?_
  show sh_cW _ _ (_, _, .null :: _) _ _ _ _ _ _ _
  refine sh_cp (fun w Z k => sh_ifnonnullN dc_Hall_sync_80 k) ?_
  refine sh_cp (fun w Z k => sh_iconst (v := (-1)) dc_Hall_sync_83 (by decide) k) ?_
  refine sh_cp (fun w Z k => sh_goto_ (tgt := 92) dc_Hall_sync_84 (by decide) k) ?_
  exact sh_ce (fun w => sh_ireturn dc_Hall_sync_92 rfl rfl (by decide) (by decide))
theorem ct_Hall_sync_Lock_5_2 {A : Nat → Nat} {K : sh_II} {L : sh_DD} {s : Nat} (hs : s < 8) (hk_s : cw_cl (K 12 s) = 4) (c0_73 : ¬ (K 19 s) ≤ (nI 3)) (c1_73 : (K 18 (6 * s + 3)) = -1) : sh_cM A md_Hall_sync [.ref (A 0), .int (nI s), .int 5] K L (.inl (some (.int (-1)))) K L := by
  refine sh_cp (fun w Z k => sh_iload_n dc_Hall_sync_0 rfl rfl k) ?_
  refine sh_cp (fun w Z k => sh_iconst (v := 0) dc_Hall_sync_1 (by decide) k) ?_
  refine sh_cp (fun w Z k => sh_bipush (v := 8) dc_Hall_sync_2 (by decide) k) ?_
  refine sh_ccall (fun w hw => sh_stat (As := [.int 5, .int 0, .int 8]) dc_Hall_sync_4 lm_Hall_checkNumber ln_Hall_39 wd_191 wd_49 rfl rfl (Nat.le_of_ble_eq_true rfl)) (ct_Hall_checkNumber_2 (x := 5) (lo := 0) (hi := 8) (by decide) (by decide)) ⟨(Nat.le_of_ble_eq_true rfl), (Nat.le_of_ble_eq_true rfl), (Nat.le_of_ble_eq_true rfl), (Nat.le_of_ble_eq_true rfl)⟩ ?_
  show sh_cW _ _ (_, _, []) K L _ _ _ _ _
  refine sh_cp (fun w Z k => sh_aload_n dc_Hall_sync_7 rfl rfl k) ?_
  refine sh_cp (fun w Z k => sh_iload_n dc_Hall_sync_8 rfl rfl k) ?_
  refine sh_ccall (fun w hw => sh_virt (As := [.int (nI s)]) dc_Hall_sync_9 lm_Hall_syncAt ln_Hall_73 wd_272 wd_2 rfl rfl (Nat.le_of_ble_eq_true rfl) (hw _ _ cw_o0) rfl) (ct_Hall_syncAt_2 (s := s) (by omega) (cw_nz hk_s (by decide))) ⟨(Nat.le_of_ble_eq_true rfl), (Nat.le_of_ble_eq_true rfl), (Nat.le_of_ble_eq_true rfl), (Nat.le_of_ble_eq_true rfl)⟩ ?_
  show sh_cW _ _ (_, _, [.ref (A (20 + s))]) K L _ _ _ _ _
  refine sh_cp (fun w Z k => sh_astore_n dc_Hall_sync_12 rfl (by decide) k) ?_
  refine sh_cp (fun w Z k => sh_iload_n dc_Hall_sync_13 rfl rfl k) ?_
  refine sh_cp (fun w Z k => sh_lookup (off := 52) (tgt := 66) dc_Hall_sync_14 (by decide) (by decide) (by decide) k) ?_
  refine sh_cp (fun w Z k => sh_aload_n dc_Hall_sync_66 rfl rfl k) ?_
  refine sh_cget (20 + s) 1 dc_Hall_sync_67 (cw_ol (by omega) hk_s) rfl (by decide) fl_Hall_206 rfl rfl rfl rfl ?_
  refine sh_cp (fun w Z k => sh_iload_n dc_Hall_sync_70 rfl rfl k) ?_
  refine sh_cp (fun w Z k => sh_iconst (v := 2) dc_Hall_sync_71 (by decide) k) ?_
  refine sh_cp (fun w Z k => sh_isub dc_Hall_sync_72 k) ?_
  refine sh_cti (show (5 - 2 : Int32) = 3 from by decide) ?_
  refine sh_ccall (fun w hw => sh_virt (As := [.int 3]) dc_Hall_sync_73 lm_Waiters_at ln_Hall_210 wd_690 wd_22 rfl rfl (Nat.le_of_ble_eq_true rfl) (hw _ _ (cw_ot (by omega) (cw_nz hk_s (by decide)))) rfl) (ct_Waiters_at_2 (s := s) (i := 3) (by omega) (cw_nz hk_s (by decide)) (by omega) c0_73 c1_73) ⟨(Nat.le_of_ble_eq_true rfl), (Nat.le_of_ble_eq_true rfl), (Nat.le_of_ble_eq_true rfl), (Nat.le_of_ble_eq_true rfl)⟩ ?_
  show sh_cW _ _ (_, _, [.null]) K L _ _ _ _ _
  refine sh_cp (fun w Z k => sh_astoreN dc_Hall_sync_76 (by decide) k) ?_
  refine sh_cp (fun w Z k => sh_aloadq (x := none) dc_Hall_sync_78 rfl k) ?_
  show sh_cW _ _ (_, _, .null :: _) _ _ _ _ _ _ _
  refine sh_cp (fun w Z k => sh_ifnonnullN dc_Hall_sync_80 k) ?_
  refine sh_cp (fun w Z k => sh_iconst (v := (-1)) dc_Hall_sync_83 (by decide) k) ?_
  refine sh_cp (fun w Z k => sh_goto_ (tgt := 92) dc_Hall_sync_84 (by decide) k) ?_
  exact sh_ce (fun w => sh_ireturn dc_Hall_sync_92 rfl rfl (by decide) (by decide))
theorem ct_Hall_sync_Lock_5_3 {A : Nat → Nat} {K : sh_II} {L : sh_DD} {s : Nat} {u18_73 : Nat} (hs : s < 8) (hk_s : cw_cl (K 12 s) = 4) (c0_73 : ¬ (K 19 s) ≤ (nI 3)) (hu18_73 : u18_73 < 6) (c2_73 : (K 18 (6 * s + 3)) = nI u18_73) : sh_cM A md_Hall_sync [.ref (A 0), .int (nI s), .int 5] K L (.inl (some (.int (nI u18_73)))) K L := by
  refine sh_cp (fun w Z k => sh_iload_n dc_Hall_sync_0 rfl rfl k) ?_
  refine sh_cp (fun w Z k => sh_iconst (v := 0) dc_Hall_sync_1 (by decide) k) ?_
  refine sh_cp (fun w Z k => sh_bipush (v := 8) dc_Hall_sync_2 (by decide) k) ?_
  refine sh_ccall (fun w hw => sh_stat (As := [.int 5, .int 0, .int 8]) dc_Hall_sync_4 lm_Hall_checkNumber ln_Hall_39 wd_191 wd_49 rfl rfl (Nat.le_of_ble_eq_true rfl)) (ct_Hall_checkNumber_2 (x := 5) (lo := 0) (hi := 8) (by decide) (by decide)) ⟨(Nat.le_of_ble_eq_true rfl), (Nat.le_of_ble_eq_true rfl), (Nat.le_of_ble_eq_true rfl), (Nat.le_of_ble_eq_true rfl)⟩ ?_
  show sh_cW _ _ (_, _, []) K L _ _ _ _ _
  refine sh_cp (fun w Z k => sh_aload_n dc_Hall_sync_7 rfl rfl k) ?_
  refine sh_cp (fun w Z k => sh_iload_n dc_Hall_sync_8 rfl rfl k) ?_
  refine sh_ccall (fun w hw => sh_virt (As := [.int (nI s)]) dc_Hall_sync_9 lm_Hall_syncAt ln_Hall_73 wd_272 wd_2 rfl rfl (Nat.le_of_ble_eq_true rfl) (hw _ _ cw_o0) rfl) (ct_Hall_syncAt_2 (s := s) (by omega) (cw_nz hk_s (by decide))) ⟨(Nat.le_of_ble_eq_true rfl), (Nat.le_of_ble_eq_true rfl), (Nat.le_of_ble_eq_true rfl), (Nat.le_of_ble_eq_true rfl)⟩ ?_
  show sh_cW _ _ (_, _, [.ref (A (20 + s))]) K L _ _ _ _ _
  refine sh_cp (fun w Z k => sh_astore_n dc_Hall_sync_12 rfl (by decide) k) ?_
  refine sh_cp (fun w Z k => sh_iload_n dc_Hall_sync_13 rfl rfl k) ?_
  refine sh_cp (fun w Z k => sh_lookup (off := 52) (tgt := 66) dc_Hall_sync_14 (by decide) (by decide) (by decide) k) ?_
  refine sh_cp (fun w Z k => sh_aload_n dc_Hall_sync_66 rfl rfl k) ?_
  refine sh_cget (20 + s) 1 dc_Hall_sync_67 (cw_ol (by omega) hk_s) rfl (by decide) fl_Hall_206 rfl rfl rfl rfl ?_
  refine sh_cp (fun w Z k => sh_iload_n dc_Hall_sync_70 rfl rfl k) ?_
  refine sh_cp (fun w Z k => sh_iconst (v := 2) dc_Hall_sync_71 (by decide) k) ?_
  refine sh_cp (fun w Z k => sh_isub dc_Hall_sync_72 k) ?_
  refine sh_cti (show (5 - 2 : Int32) = 3 from by decide) ?_
  refine sh_ccall (fun w hw => sh_virt (As := [.int 3]) dc_Hall_sync_73 lm_Waiters_at ln_Hall_210 wd_690 wd_22 rfl rfl (Nat.le_of_ble_eq_true rfl) (hw _ _ (cw_ot (by omega) (cw_nz hk_s (by decide)))) rfl) (ct_Waiters_at_3 (s := s) (i := 3) (u18_17 := u18_73) (by omega) (cw_nz hk_s (by decide)) (by omega) c0_73 (by omega) c2_73) ⟨(Nat.le_of_ble_eq_true rfl), (Nat.le_of_ble_eq_true rfl), (Nat.le_of_ble_eq_true rfl), (Nat.le_of_ble_eq_true rfl)⟩ ?_
  show sh_cW _ _ (_, _, [.ref (A (10 + u18_73))]) K L _ _ _ _ _
  refine sh_cp (fun w Z k => sh_astore dc_Hall_sync_76 (by decide) k) ?_
  refine sh_cp (fun w Z k => sh_aload dc_Hall_sync_78 rfl k) ?_
  refine sh_cp (fun w Z k => sh_ifnonnull (tgt := 87) dc_Hall_sync_80 (by decide) k) ?_
  refine sh_cp (fun w Z k => sh_aload dc_Hall_sync_87 rfl k) ?_
  refine sh_cget (10 + u18_73) 0 dc_Hall_sync_89 (cw_ow (by omega)) rfl (by decide) fl_Hall_213 rfl rfl rfl rfl ?_
  exact sh_ce (fun w => sh_ireturn dc_Hall_sync_92 rfl rfl (by decide) (by decide))
theorem ct_Hall_sync_Lock_6_1 {A : Nat → Nat} {K : sh_II} {L : sh_DD} {s : Nat} (hs : s < 8) (hk_s : cw_cl (K 12 s) = 4) (c0_73 : (K 19 s) ≤ (nI 4)) : sh_cM A md_Hall_sync [.ref (A 0), .int (nI s), .int 6] K L (.inl (some (.int (-1)))) K L := by
  refine sh_cp (fun w Z k => sh_iload_n dc_Hall_sync_0 rfl rfl k) ?_
  refine sh_cp (fun w Z k => sh_iconst (v := 0) dc_Hall_sync_1 (by decide) k) ?_
  refine sh_cp (fun w Z k => sh_bipush (v := 8) dc_Hall_sync_2 (by decide) k) ?_
  refine sh_ccall (fun w hw => sh_stat (As := [.int 6, .int 0, .int 8]) dc_Hall_sync_4 lm_Hall_checkNumber ln_Hall_39 wd_191 wd_49 rfl rfl (Nat.le_of_ble_eq_true rfl)) (ct_Hall_checkNumber_2 (x := 6) (lo := 0) (hi := 8) (by decide) (by decide)) ⟨(Nat.le_of_ble_eq_true rfl), (Nat.le_of_ble_eq_true rfl), (Nat.le_of_ble_eq_true rfl), (Nat.le_of_ble_eq_true rfl)⟩ ?_
  show sh_cW _ _ (_, _, []) K L _ _ _ _ _
  refine sh_cp (fun w Z k => sh_aload_n dc_Hall_sync_7 rfl rfl k) ?_
  refine sh_cp (fun w Z k => sh_iload_n dc_Hall_sync_8 rfl rfl k) ?_
  refine sh_ccall (fun w hw => sh_virt (As := [.int (nI s)]) dc_Hall_sync_9 lm_Hall_syncAt ln_Hall_73 wd_272 wd_2 rfl rfl (Nat.le_of_ble_eq_true rfl) (hw _ _ cw_o0) rfl) (ct_Hall_syncAt_2 (s := s) (by omega) (cw_nz hk_s (by decide))) ⟨(Nat.le_of_ble_eq_true rfl), (Nat.le_of_ble_eq_true rfl), (Nat.le_of_ble_eq_true rfl), (Nat.le_of_ble_eq_true rfl)⟩ ?_
  show sh_cW _ _ (_, _, [.ref (A (20 + s))]) K L _ _ _ _ _
  refine sh_cp (fun w Z k => sh_astore_n dc_Hall_sync_12 rfl (by decide) k) ?_
  refine sh_cp (fun w Z k => sh_iload_n dc_Hall_sync_13 rfl rfl k) ?_
  refine sh_cp (fun w Z k => sh_lookup (off := 52) (tgt := 66) dc_Hall_sync_14 (by decide) (by decide) (by decide) k) ?_
  refine sh_cp (fun w Z k => sh_aload_n dc_Hall_sync_66 rfl rfl k) ?_
  refine sh_cget (20 + s) 1 dc_Hall_sync_67 (cw_ol (by omega) hk_s) rfl (by decide) fl_Hall_206 rfl rfl rfl rfl ?_
  refine sh_cp (fun w Z k => sh_iload_n dc_Hall_sync_70 rfl rfl k) ?_
  refine sh_cp (fun w Z k => sh_iconst (v := 2) dc_Hall_sync_71 (by decide) k) ?_
  refine sh_cp (fun w Z k => sh_isub dc_Hall_sync_72 k) ?_
  refine sh_cti (show (6 - 2 : Int32) = 4 from by decide) ?_
  refine sh_ccall (fun w hw => sh_virt (As := [.int 4]) dc_Hall_sync_73 lm_Waiters_at ln_Hall_210 wd_690 wd_22 rfl rfl (Nat.le_of_ble_eq_true rfl) (hw _ _ (cw_ot (by omega) (cw_nz hk_s (by decide)))) rfl) (ct_Waiters_at_1 (s := s) (i := 4) (by omega) (cw_nz hk_s (by decide)) (by omega) c0_73) ⟨(Nat.le_of_ble_eq_true rfl), (Nat.le_of_ble_eq_true rfl), (Nat.le_of_ble_eq_true rfl), (Nat.le_of_ble_eq_true rfl)⟩ ?_
  show sh_cW _ _ (_, _, [.null]) K L _ _ _ _ _
  refine sh_cp (fun w Z k => sh_astoreN dc_Hall_sync_76 (by decide) k) ?_
  refine sh_cp (fun w Z k => sh_aloadq (x := none) dc_Hall_sync_78 rfl k) ?_
  show sh_cW _ _ (_, _, .null :: _) _ _ _ _ _ _ _
  refine sh_cp (fun w Z k => sh_ifnonnullN dc_Hall_sync_80 k) ?_
  refine sh_cp (fun w Z k => sh_iconst (v := (-1)) dc_Hall_sync_83 (by decide) k) ?_
  refine sh_cp (fun w Z k => sh_goto_ (tgt := 92) dc_Hall_sync_84 (by decide) k) ?_
  exact sh_ce (fun w => sh_ireturn dc_Hall_sync_92 rfl rfl (by decide) (by decide))
theorem ct_Hall_sync_Lock_6_2 {A : Nat → Nat} {K : sh_II} {L : sh_DD} {s : Nat} (hs : s < 8) (hk_s : cw_cl (K 12 s) = 4) (c0_73 : ¬ (K 19 s) ≤ (nI 4)) (c1_73 : (K 18 (6 * s + 4)) = -1) : sh_cM A md_Hall_sync [.ref (A 0), .int (nI s), .int 6] K L (.inl (some (.int (-1)))) K L := by
  refine sh_cp (fun w Z k => sh_iload_n dc_Hall_sync_0 rfl rfl k) ?_
  refine sh_cp (fun w Z k => sh_iconst (v := 0) dc_Hall_sync_1 (by decide) k) ?_
  refine sh_cp (fun w Z k => sh_bipush (v := 8) dc_Hall_sync_2 (by decide) k) ?_
  refine sh_ccall (fun w hw => sh_stat (As := [.int 6, .int 0, .int 8]) dc_Hall_sync_4 lm_Hall_checkNumber ln_Hall_39 wd_191 wd_49 rfl rfl (Nat.le_of_ble_eq_true rfl)) (ct_Hall_checkNumber_2 (x := 6) (lo := 0) (hi := 8) (by decide) (by decide)) ⟨(Nat.le_of_ble_eq_true rfl), (Nat.le_of_ble_eq_true rfl), (Nat.le_of_ble_eq_true rfl), (Nat.le_of_ble_eq_true rfl)⟩ ?_
  show sh_cW _ _ (_, _, []) K L _ _ _ _ _
  refine sh_cp (fun w Z k => sh_aload_n dc_Hall_sync_7 rfl rfl k) ?_
  refine sh_cp (fun w Z k => sh_iload_n dc_Hall_sync_8 rfl rfl k) ?_
  refine sh_ccall (fun w hw => sh_virt (As := [.int (nI s)]) dc_Hall_sync_9 lm_Hall_syncAt ln_Hall_73 wd_272 wd_2 rfl rfl (Nat.le_of_ble_eq_true rfl) (hw _ _ cw_o0) rfl) (ct_Hall_syncAt_2 (s := s) (by omega) (cw_nz hk_s (by decide))) ⟨(Nat.le_of_ble_eq_true rfl), (Nat.le_of_ble_eq_true rfl), (Nat.le_of_ble_eq_true rfl), (Nat.le_of_ble_eq_true rfl)⟩ ?_
  show sh_cW _ _ (_, _, [.ref (A (20 + s))]) K L _ _ _ _ _
  refine sh_cp (fun w Z k => sh_astore_n dc_Hall_sync_12 rfl (by decide) k) ?_
  refine sh_cp (fun w Z k => sh_iload_n dc_Hall_sync_13 rfl rfl k) ?_
  refine sh_cp (fun w Z k => sh_lookup (off := 52) (tgt := 66) dc_Hall_sync_14 (by decide) (by decide) (by decide) k) ?_
  refine sh_cp (fun w Z k => sh_aload_n dc_Hall_sync_66 rfl rfl k) ?_
  refine sh_cget (20 + s) 1 dc_Hall_sync_67 (cw_ol (by omega) hk_s) rfl (by decide) fl_Hall_206 rfl rfl rfl rfl ?_
  refine sh_cp (fun w Z k => sh_iload_n dc_Hall_sync_70 rfl rfl k) ?_
  refine sh_cp (fun w Z k => sh_iconst (v := 2) dc_Hall_sync_71 (by decide) k) ?_
  refine sh_cp (fun w Z k => sh_isub dc_Hall_sync_72 k) ?_
  refine sh_cti (show (6 - 2 : Int32) = 4 from by decide) ?_
  refine sh_ccall (fun w hw => sh_virt (As := [.int 4]) dc_Hall_sync_73 lm_Waiters_at ln_Hall_210 wd_690 wd_22 rfl rfl (Nat.le_of_ble_eq_true rfl) (hw _ _ (cw_ot (by omega) (cw_nz hk_s (by decide)))) rfl) (ct_Waiters_at_2 (s := s) (i := 4) (by omega) (cw_nz hk_s (by decide)) (by omega) c0_73 c1_73) ⟨(Nat.le_of_ble_eq_true rfl), (Nat.le_of_ble_eq_true rfl), (Nat.le_of_ble_eq_true rfl), (Nat.le_of_ble_eq_true rfl)⟩ ?_
  show sh_cW _ _ (_, _, [.null]) K L _ _ _ _ _
  refine sh_cp (fun w Z k => sh_astoreN dc_Hall_sync_76 (by decide) k) ?_
  refine sh_cp (fun w Z k => sh_aloadq (x := none) dc_Hall_sync_78 rfl k) ?_
  show sh_cW _ _ (_, _, .null :: _) _ _ _ _ _ _ _
  refine sh_cp (fun w Z k => sh_ifnonnullN dc_Hall_sync_80 k) ?_
  refine sh_cp (fun w Z k => sh_iconst (v := (-1)) dc_Hall_sync_83 (by decide) k) ?_
  refine sh_cp (fun w Z k => sh_goto_ (tgt := 92) dc_Hall_sync_84 (by decide) k) ?_
  exact sh_ce (fun w => sh_ireturn dc_Hall_sync_92 rfl rfl (by decide) (by decide))
theorem ct_Hall_sync_Lock_6_3 {A : Nat → Nat} {K : sh_II} {L : sh_DD} {s : Nat} {u18_73 : Nat} (hs : s < 8) (hk_s : cw_cl (K 12 s) = 4) (c0_73 : ¬ (K 19 s) ≤ (nI 4)) (hu18_73 : u18_73 < 6) (c2_73 : (K 18 (6 * s + 4)) = nI u18_73) : sh_cM A md_Hall_sync [.ref (A 0), .int (nI s), .int 6] K L (.inl (some (.int (nI u18_73)))) K L := by
  refine sh_cp (fun w Z k => sh_iload_n dc_Hall_sync_0 rfl rfl k) ?_
  refine sh_cp (fun w Z k => sh_iconst (v := 0) dc_Hall_sync_1 (by decide) k) ?_
  refine sh_cp (fun w Z k => sh_bipush (v := 8) dc_Hall_sync_2 (by decide) k) ?_
  refine sh_ccall (fun w hw => sh_stat (As := [.int 6, .int 0, .int 8]) dc_Hall_sync_4 lm_Hall_checkNumber ln_Hall_39 wd_191 wd_49 rfl rfl (Nat.le_of_ble_eq_true rfl)) (ct_Hall_checkNumber_2 (x := 6) (lo := 0) (hi := 8) (by decide) (by decide)) ⟨(Nat.le_of_ble_eq_true rfl), (Nat.le_of_ble_eq_true rfl), (Nat.le_of_ble_eq_true rfl), (Nat.le_of_ble_eq_true rfl)⟩ ?_
  show sh_cW _ _ (_, _, []) K L _ _ _ _ _
  refine sh_cp (fun w Z k => sh_aload_n dc_Hall_sync_7 rfl rfl k) ?_
  refine sh_cp (fun w Z k => sh_iload_n dc_Hall_sync_8 rfl rfl k) ?_
  refine sh_ccall (fun w hw => sh_virt (As := [.int (nI s)]) dc_Hall_sync_9 lm_Hall_syncAt ln_Hall_73 wd_272 wd_2 rfl rfl (Nat.le_of_ble_eq_true rfl) (hw _ _ cw_o0) rfl) (ct_Hall_syncAt_2 (s := s) (by omega) (cw_nz hk_s (by decide))) ⟨(Nat.le_of_ble_eq_true rfl), (Nat.le_of_ble_eq_true rfl), (Nat.le_of_ble_eq_true rfl), (Nat.le_of_ble_eq_true rfl)⟩ ?_
  show sh_cW _ _ (_, _, [.ref (A (20 + s))]) K L _ _ _ _ _
  refine sh_cp (fun w Z k => sh_astore_n dc_Hall_sync_12 rfl (by decide) k) ?_
  refine sh_cp (fun w Z k => sh_iload_n dc_Hall_sync_13 rfl rfl k) ?_
  refine sh_cp (fun w Z k => sh_lookup (off := 52) (tgt := 66) dc_Hall_sync_14 (by decide) (by decide) (by decide) k) ?_
  refine sh_cp (fun w Z k => sh_aload_n dc_Hall_sync_66 rfl rfl k) ?_
  refine sh_cget (20 + s) 1 dc_Hall_sync_67 (cw_ol (by omega) hk_s) rfl (by decide) fl_Hall_206 rfl rfl rfl rfl ?_
  refine sh_cp (fun w Z k => sh_iload_n dc_Hall_sync_70 rfl rfl k) ?_
  refine sh_cp (fun w Z k => sh_iconst (v := 2) dc_Hall_sync_71 (by decide) k) ?_
  refine sh_cp (fun w Z k => sh_isub dc_Hall_sync_72 k) ?_
  refine sh_cti (show (6 - 2 : Int32) = 4 from by decide) ?_
  refine sh_ccall (fun w hw => sh_virt (As := [.int 4]) dc_Hall_sync_73 lm_Waiters_at ln_Hall_210 wd_690 wd_22 rfl rfl (Nat.le_of_ble_eq_true rfl) (hw _ _ (cw_ot (by omega) (cw_nz hk_s (by decide)))) rfl) (ct_Waiters_at_3 (s := s) (i := 4) (u18_17 := u18_73) (by omega) (cw_nz hk_s (by decide)) (by omega) c0_73 (by omega) c2_73) ⟨(Nat.le_of_ble_eq_true rfl), (Nat.le_of_ble_eq_true rfl), (Nat.le_of_ble_eq_true rfl), (Nat.le_of_ble_eq_true rfl)⟩ ?_
  show sh_cW _ _ (_, _, [.ref (A (10 + u18_73))]) K L _ _ _ _ _
  refine sh_cp (fun w Z k => sh_astore dc_Hall_sync_76 (by decide) k) ?_
  refine sh_cp (fun w Z k => sh_aload dc_Hall_sync_78 rfl k) ?_
  refine sh_cp (fun w Z k => sh_ifnonnull (tgt := 87) dc_Hall_sync_80 (by decide) k) ?_
  refine sh_cp (fun w Z k => sh_aload dc_Hall_sync_87 rfl k) ?_
  refine sh_cget (10 + u18_73) 0 dc_Hall_sync_89 (cw_ow (by omega)) rfl (by decide) fl_Hall_213 rfl rfl rfl rfl ?_
  exact sh_ce (fun w => sh_ireturn dc_Hall_sync_92 rfl rfl (by decide) (by decide))
theorem ct_Hall_sync_Lock_7_1 {A : Nat → Nat} {K : sh_II} {L : sh_DD} {s : Nat} (hs : s < 8) (hk_s : cw_cl (K 12 s) = 4) (c0_73 : (K 19 s) ≤ (nI 5)) : sh_cM A md_Hall_sync [.ref (A 0), .int (nI s), .int 7] K L (.inl (some (.int (-1)))) K L := by
  refine sh_cp (fun w Z k => sh_iload_n dc_Hall_sync_0 rfl rfl k) ?_
  refine sh_cp (fun w Z k => sh_iconst (v := 0) dc_Hall_sync_1 (by decide) k) ?_
  refine sh_cp (fun w Z k => sh_bipush (v := 8) dc_Hall_sync_2 (by decide) k) ?_
  refine sh_ccall (fun w hw => sh_stat (As := [.int 7, .int 0, .int 8]) dc_Hall_sync_4 lm_Hall_checkNumber ln_Hall_39 wd_191 wd_49 rfl rfl (Nat.le_of_ble_eq_true rfl)) (ct_Hall_checkNumber_2 (x := 7) (lo := 0) (hi := 8) (by decide) (by decide)) ⟨(Nat.le_of_ble_eq_true rfl), (Nat.le_of_ble_eq_true rfl), (Nat.le_of_ble_eq_true rfl), (Nat.le_of_ble_eq_true rfl)⟩ ?_
  show sh_cW _ _ (_, _, []) K L _ _ _ _ _
  refine sh_cp (fun w Z k => sh_aload_n dc_Hall_sync_7 rfl rfl k) ?_
  refine sh_cp (fun w Z k => sh_iload_n dc_Hall_sync_8 rfl rfl k) ?_
  refine sh_ccall (fun w hw => sh_virt (As := [.int (nI s)]) dc_Hall_sync_9 lm_Hall_syncAt ln_Hall_73 wd_272 wd_2 rfl rfl (Nat.le_of_ble_eq_true rfl) (hw _ _ cw_o0) rfl) (ct_Hall_syncAt_2 (s := s) (by omega) (cw_nz hk_s (by decide))) ⟨(Nat.le_of_ble_eq_true rfl), (Nat.le_of_ble_eq_true rfl), (Nat.le_of_ble_eq_true rfl), (Nat.le_of_ble_eq_true rfl)⟩ ?_
  show sh_cW _ _ (_, _, [.ref (A (20 + s))]) K L _ _ _ _ _
  refine sh_cp (fun w Z k => sh_astore_n dc_Hall_sync_12 rfl (by decide) k) ?_
  refine sh_cp (fun w Z k => sh_iload_n dc_Hall_sync_13 rfl rfl k) ?_
  refine sh_cp (fun w Z k => sh_lookup (off := 52) (tgt := 66) dc_Hall_sync_14 (by decide) (by decide) (by decide) k) ?_
  refine sh_cp (fun w Z k => sh_aload_n dc_Hall_sync_66 rfl rfl k) ?_
  refine sh_cget (20 + s) 1 dc_Hall_sync_67 (cw_ol (by omega) hk_s) rfl (by decide) fl_Hall_206 rfl rfl rfl rfl ?_
  refine sh_cp (fun w Z k => sh_iload_n dc_Hall_sync_70 rfl rfl k) ?_
  refine sh_cp (fun w Z k => sh_iconst (v := 2) dc_Hall_sync_71 (by decide) k) ?_
  refine sh_cp (fun w Z k => sh_isub dc_Hall_sync_72 k) ?_
  refine sh_cti (show (7 - 2 : Int32) = 5 from by decide) ?_
  refine sh_ccall (fun w hw => sh_virt (As := [.int 5]) dc_Hall_sync_73 lm_Waiters_at ln_Hall_210 wd_690 wd_22 rfl rfl (Nat.le_of_ble_eq_true rfl) (hw _ _ (cw_ot (by omega) (cw_nz hk_s (by decide)))) rfl) (ct_Waiters_at_1 (s := s) (i := 5) (by omega) (cw_nz hk_s (by decide)) (by omega) c0_73) ⟨(Nat.le_of_ble_eq_true rfl), (Nat.le_of_ble_eq_true rfl), (Nat.le_of_ble_eq_true rfl), (Nat.le_of_ble_eq_true rfl)⟩ ?_
  show sh_cW _ _ (_, _, [.null]) K L _ _ _ _ _
  refine sh_cp (fun w Z k => sh_astoreN dc_Hall_sync_76 (by decide) k) ?_
  refine sh_cp (fun w Z k => sh_aloadq (x := none) dc_Hall_sync_78 rfl k) ?_
  show sh_cW _ _ (_, _, .null :: _) _ _ _ _ _ _ _
  refine sh_cp (fun w Z k => sh_ifnonnullN dc_Hall_sync_80 k) ?_
  refine sh_cp (fun w Z k => sh_iconst (v := (-1)) dc_Hall_sync_83 (by decide) k) ?_
  refine sh_cp (fun w Z k => sh_goto_ (tgt := 92) dc_Hall_sync_84 (by decide) k) ?_
  exact sh_ce (fun w => sh_ireturn dc_Hall_sync_92 rfl rfl (by decide) (by decide))
theorem ct_Hall_sync_Lock_7_2 {A : Nat → Nat} {K : sh_II} {L : sh_DD} {s : Nat} (hs : s < 8) (hk_s : cw_cl (K 12 s) = 4) (c0_73 : ¬ (K 19 s) ≤ (nI 5)) (c1_73 : (K 18 (6 * s + 5)) = -1) : sh_cM A md_Hall_sync [.ref (A 0), .int (nI s), .int 7] K L (.inl (some (.int (-1)))) K L := by
  refine sh_cp (fun w Z k => sh_iload_n dc_Hall_sync_0 rfl rfl k) ?_
  refine sh_cp (fun w Z k => sh_iconst (v := 0) dc_Hall_sync_1 (by decide) k) ?_
  refine sh_cp (fun w Z k => sh_bipush (v := 8) dc_Hall_sync_2 (by decide) k) ?_
  refine sh_ccall (fun w hw => sh_stat (As := [.int 7, .int 0, .int 8]) dc_Hall_sync_4 lm_Hall_checkNumber ln_Hall_39 wd_191 wd_49 rfl rfl (Nat.le_of_ble_eq_true rfl)) (ct_Hall_checkNumber_2 (x := 7) (lo := 0) (hi := 8) (by decide) (by decide)) ⟨(Nat.le_of_ble_eq_true rfl), (Nat.le_of_ble_eq_true rfl), (Nat.le_of_ble_eq_true rfl), (Nat.le_of_ble_eq_true rfl)⟩ ?_
  show sh_cW _ _ (_, _, []) K L _ _ _ _ _
  refine sh_cp (fun w Z k => sh_aload_n dc_Hall_sync_7 rfl rfl k) ?_
  refine sh_cp (fun w Z k => sh_iload_n dc_Hall_sync_8 rfl rfl k) ?_
  refine sh_ccall (fun w hw => sh_virt (As := [.int (nI s)]) dc_Hall_sync_9 lm_Hall_syncAt ln_Hall_73 wd_272 wd_2 rfl rfl (Nat.le_of_ble_eq_true rfl) (hw _ _ cw_o0) rfl) (ct_Hall_syncAt_2 (s := s) (by omega) (cw_nz hk_s (by decide))) ⟨(Nat.le_of_ble_eq_true rfl), (Nat.le_of_ble_eq_true rfl), (Nat.le_of_ble_eq_true rfl), (Nat.le_of_ble_eq_true rfl)⟩ ?_
  show sh_cW _ _ (_, _, [.ref (A (20 + s))]) K L _ _ _ _ _
  refine sh_cp (fun w Z k => sh_astore_n dc_Hall_sync_12 rfl (by decide) k) ?_
  refine sh_cp (fun w Z k => sh_iload_n dc_Hall_sync_13 rfl rfl k) ?_
  refine sh_cp (fun w Z k => sh_lookup (off := 52) (tgt := 66) dc_Hall_sync_14 (by decide) (by decide) (by decide) k) ?_
  refine sh_cp (fun w Z k => sh_aload_n dc_Hall_sync_66 rfl rfl k) ?_
  refine sh_cget (20 + s) 1 dc_Hall_sync_67 (cw_ol (by omega) hk_s) rfl (by decide) fl_Hall_206 rfl rfl rfl rfl ?_
  refine sh_cp (fun w Z k => sh_iload_n dc_Hall_sync_70 rfl rfl k) ?_
  refine sh_cp (fun w Z k => sh_iconst (v := 2) dc_Hall_sync_71 (by decide) k) ?_
  refine sh_cp (fun w Z k => sh_isub dc_Hall_sync_72 k) ?_
  refine sh_cti (show (7 - 2 : Int32) = 5 from by decide) ?_
  refine sh_ccall (fun w hw => sh_virt (As := [.int 5]) dc_Hall_sync_73 lm_Waiters_at ln_Hall_210 wd_690 wd_22 rfl rfl (Nat.le_of_ble_eq_true rfl) (hw _ _ (cw_ot (by omega) (cw_nz hk_s (by decide)))) rfl) (ct_Waiters_at_2 (s := s) (i := 5) (by omega) (cw_nz hk_s (by decide)) (by omega) c0_73 c1_73) ⟨(Nat.le_of_ble_eq_true rfl), (Nat.le_of_ble_eq_true rfl), (Nat.le_of_ble_eq_true rfl), (Nat.le_of_ble_eq_true rfl)⟩ ?_
  show sh_cW _ _ (_, _, [.null]) K L _ _ _ _ _
  refine sh_cp (fun w Z k => sh_astoreN dc_Hall_sync_76 (by decide) k) ?_
  refine sh_cp (fun w Z k => sh_aloadq (x := none) dc_Hall_sync_78 rfl k) ?_
  show sh_cW _ _ (_, _, .null :: _) _ _ _ _ _ _ _
  refine sh_cp (fun w Z k => sh_ifnonnullN dc_Hall_sync_80 k) ?_
  refine sh_cp (fun w Z k => sh_iconst (v := (-1)) dc_Hall_sync_83 (by decide) k) ?_
  refine sh_cp (fun w Z k => sh_goto_ (tgt := 92) dc_Hall_sync_84 (by decide) k) ?_
  exact sh_ce (fun w => sh_ireturn dc_Hall_sync_92 rfl rfl (by decide) (by decide))
theorem ct_Hall_sync_Lock_7_3 {A : Nat → Nat} {K : sh_II} {L : sh_DD} {s : Nat} {u18_73 : Nat} (hs : s < 8) (hk_s : cw_cl (K 12 s) = 4) (c0_73 : ¬ (K 19 s) ≤ (nI 5)) (hu18_73 : u18_73 < 6) (c2_73 : (K 18 (6 * s + 5)) = nI u18_73) : sh_cM A md_Hall_sync [.ref (A 0), .int (nI s), .int 7] K L (.inl (some (.int (nI u18_73)))) K L := by
  refine sh_cp (fun w Z k => sh_iload_n dc_Hall_sync_0 rfl rfl k) ?_
  refine sh_cp (fun w Z k => sh_iconst (v := 0) dc_Hall_sync_1 (by decide) k) ?_
  refine sh_cp (fun w Z k => sh_bipush (v := 8) dc_Hall_sync_2 (by decide) k) ?_
  refine sh_ccall (fun w hw => sh_stat (As := [.int 7, .int 0, .int 8]) dc_Hall_sync_4 lm_Hall_checkNumber ln_Hall_39 wd_191 wd_49 rfl rfl (Nat.le_of_ble_eq_true rfl)) (ct_Hall_checkNumber_2 (x := 7) (lo := 0) (hi := 8) (by decide) (by decide)) ⟨(Nat.le_of_ble_eq_true rfl), (Nat.le_of_ble_eq_true rfl), (Nat.le_of_ble_eq_true rfl), (Nat.le_of_ble_eq_true rfl)⟩ ?_
  show sh_cW _ _ (_, _, []) K L _ _ _ _ _
  refine sh_cp (fun w Z k => sh_aload_n dc_Hall_sync_7 rfl rfl k) ?_
  refine sh_cp (fun w Z k => sh_iload_n dc_Hall_sync_8 rfl rfl k) ?_
  refine sh_ccall (fun w hw => sh_virt (As := [.int (nI s)]) dc_Hall_sync_9 lm_Hall_syncAt ln_Hall_73 wd_272 wd_2 rfl rfl (Nat.le_of_ble_eq_true rfl) (hw _ _ cw_o0) rfl) (ct_Hall_syncAt_2 (s := s) (by omega) (cw_nz hk_s (by decide))) ⟨(Nat.le_of_ble_eq_true rfl), (Nat.le_of_ble_eq_true rfl), (Nat.le_of_ble_eq_true rfl), (Nat.le_of_ble_eq_true rfl)⟩ ?_
  show sh_cW _ _ (_, _, [.ref (A (20 + s))]) K L _ _ _ _ _
  refine sh_cp (fun w Z k => sh_astore_n dc_Hall_sync_12 rfl (by decide) k) ?_
  refine sh_cp (fun w Z k => sh_iload_n dc_Hall_sync_13 rfl rfl k) ?_
  refine sh_cp (fun w Z k => sh_lookup (off := 52) (tgt := 66) dc_Hall_sync_14 (by decide) (by decide) (by decide) k) ?_
  refine sh_cp (fun w Z k => sh_aload_n dc_Hall_sync_66 rfl rfl k) ?_
  refine sh_cget (20 + s) 1 dc_Hall_sync_67 (cw_ol (by omega) hk_s) rfl (by decide) fl_Hall_206 rfl rfl rfl rfl ?_
  refine sh_cp (fun w Z k => sh_iload_n dc_Hall_sync_70 rfl rfl k) ?_
  refine sh_cp (fun w Z k => sh_iconst (v := 2) dc_Hall_sync_71 (by decide) k) ?_
  refine sh_cp (fun w Z k => sh_isub dc_Hall_sync_72 k) ?_
  refine sh_cti (show (7 - 2 : Int32) = 5 from by decide) ?_
  refine sh_ccall (fun w hw => sh_virt (As := [.int 5]) dc_Hall_sync_73 lm_Waiters_at ln_Hall_210 wd_690 wd_22 rfl rfl (Nat.le_of_ble_eq_true rfl) (hw _ _ (cw_ot (by omega) (cw_nz hk_s (by decide)))) rfl) (ct_Waiters_at_3 (s := s) (i := 5) (u18_17 := u18_73) (by omega) (cw_nz hk_s (by decide)) (by omega) c0_73 (by omega) c2_73) ⟨(Nat.le_of_ble_eq_true rfl), (Nat.le_of_ble_eq_true rfl), (Nat.le_of_ble_eq_true rfl), (Nat.le_of_ble_eq_true rfl)⟩ ?_
  show sh_cW _ _ (_, _, [.ref (A (10 + u18_73))]) K L _ _ _ _ _
  refine sh_cp (fun w Z k => sh_astore dc_Hall_sync_76 (by decide) k) ?_
  refine sh_cp (fun w Z k => sh_aload dc_Hall_sync_78 rfl k) ?_
  refine sh_cp (fun w Z k => sh_ifnonnull (tgt := 87) dc_Hall_sync_80 (by decide) k) ?_
  refine sh_cp (fun w Z k => sh_aload dc_Hall_sync_87 rfl k) ?_
  refine sh_cget (10 + u18_73) 0 dc_Hall_sync_89 (cw_ow (by omega)) rfl (by decide) fl_Hall_213 rfl rfl rfl rfl ?_
  exact sh_ce (fun w => sh_ireturn dc_Hall_sync_92 rfl rfl (by decide) (by decide))
theorem ct_Hall_sync_Lock_8_1 {A : Nat → Nat} {K : sh_II} {L : sh_DD} {s : Nat} (hs : s < 8) (hk_s : cw_cl (K 12 s) = 4) : sh_cM A md_Hall_sync [.ref (A 0), .int (nI s), .int 8] K L (.inl (some (.int 0))) K L := by
  refine sh_cp (fun w Z k => sh_iload_n dc_Hall_sync_0 rfl rfl k) ?_
  refine sh_cp (fun w Z k => sh_iconst (v := 0) dc_Hall_sync_1 (by decide) k) ?_
  refine sh_cp (fun w Z k => sh_bipush (v := 8) dc_Hall_sync_2 (by decide) k) ?_
  refine sh_ccall (fun w hw => sh_stat (As := [.int 8, .int 0, .int 8]) dc_Hall_sync_4 lm_Hall_checkNumber ln_Hall_39 wd_191 wd_49 rfl rfl (Nat.le_of_ble_eq_true rfl)) (ct_Hall_checkNumber_2 (x := 8) (lo := 0) (hi := 8) (by decide) (by decide)) ⟨(Nat.le_of_ble_eq_true rfl), (Nat.le_of_ble_eq_true rfl), (Nat.le_of_ble_eq_true rfl), (Nat.le_of_ble_eq_true rfl)⟩ ?_
  show sh_cW _ _ (_, _, []) K L _ _ _ _ _
  refine sh_cp (fun w Z k => sh_aload_n dc_Hall_sync_7 rfl rfl k) ?_
  refine sh_cp (fun w Z k => sh_iload_n dc_Hall_sync_8 rfl rfl k) ?_
  refine sh_ccall (fun w hw => sh_virt (As := [.int (nI s)]) dc_Hall_sync_9 lm_Hall_syncAt ln_Hall_73 wd_272 wd_2 rfl rfl (Nat.le_of_ble_eq_true rfl) (hw _ _ cw_o0) rfl) (ct_Hall_syncAt_2 (s := s) (by omega) (cw_nz hk_s (by decide))) ⟨(Nat.le_of_ble_eq_true rfl), (Nat.le_of_ble_eq_true rfl), (Nat.le_of_ble_eq_true rfl), (Nat.le_of_ble_eq_true rfl)⟩ ?_
  show sh_cW _ _ (_, _, [.ref (A (20 + s))]) K L _ _ _ _ _
  refine sh_cp (fun w Z k => sh_astore_n dc_Hall_sync_12 rfl (by decide) k) ?_
  refine sh_cp (fun w Z k => sh_iload_n dc_Hall_sync_13 rfl rfl k) ?_
  refine sh_cp (fun w Z k => sh_lookup (off := 47) (tgt := 61) dc_Hall_sync_14 (by decide) (by decide) (by decide) k) ?_
  refine sh_cp (fun w Z k => sh_aload_n dc_Hall_sync_61 rfl rfl k) ?_
  refine sh_ccall (fun w hw => sh_virtU (As := []) dc_Hall_sync_62 lm_Sync_amount wd_819 wd_821 (Or.inr ⟨_, _, _, wd_820, wd_831⟩) ⟨by decide, by decide⟩ (by decide +kernel) wd_820 wd_826 rfl rfl (Nat.le_of_ble_eq_true rfl) (hw _ _ (cw_ol (by omega) hk_s)) rfl) (ct_Sync_amount_Lock_1 (s := s) (by omega) hk_s) ⟨(Nat.le_of_ble_eq_true rfl), (Nat.le_of_ble_eq_true rfl), (Nat.le_of_ble_eq_true rfl), (Nat.le_of_ble_eq_true rfl)⟩ ?_
  show sh_cW _ _ (_, _, [.int 0]) K L _ _ _ _ _
  exact sh_ce (fun w => sh_ireturn dc_Hall_sync_65 rfl rfl (by decide) (by decide))
theorem ct_Hall_sync_Semaphore_0_1 {A : Nat → Nat} {K : sh_II} {L : sh_DD} {s : Nat} (hs : s < 8) (hk_s : cw_cl (K 12 s) = 5) : sh_cM A md_Hall_sync [.ref (A 0), .int (nI s), .int 0] K L (.inl (some (.int (K 12 s)))) K L := by
  refine sh_cp (fun w Z k => sh_iload_n dc_Hall_sync_0 rfl rfl k) ?_
  refine sh_cp (fun w Z k => sh_iconst (v := 0) dc_Hall_sync_1 (by decide) k) ?_
  refine sh_cp (fun w Z k => sh_bipush (v := 8) dc_Hall_sync_2 (by decide) k) ?_
  refine sh_ccall (fun w hw => sh_stat (As := [.int 0, .int 0, .int 8]) dc_Hall_sync_4 lm_Hall_checkNumber ln_Hall_39 wd_191 wd_49 rfl rfl (Nat.le_of_ble_eq_true rfl)) (ct_Hall_checkNumber_2 (x := 0) (lo := 0) (hi := 8) (by decide) (by decide)) ⟨(Nat.le_of_ble_eq_true rfl), (Nat.le_of_ble_eq_true rfl), (Nat.le_of_ble_eq_true rfl), (Nat.le_of_ble_eq_true rfl)⟩ ?_
  show sh_cW _ _ (_, _, []) K L _ _ _ _ _
  refine sh_cp (fun w Z k => sh_aload_n dc_Hall_sync_7 rfl rfl k) ?_
  refine sh_cp (fun w Z k => sh_iload_n dc_Hall_sync_8 rfl rfl k) ?_
  refine sh_ccall (fun w hw => sh_virt (As := [.int (nI s)]) dc_Hall_sync_9 lm_Hall_syncAt ln_Hall_73 wd_272 wd_2 rfl rfl (Nat.le_of_ble_eq_true rfl) (hw _ _ cw_o0) rfl) (ct_Hall_syncAt_2 (s := s) (by omega) (cw_nz hk_s (by decide))) ⟨(Nat.le_of_ble_eq_true rfl), (Nat.le_of_ble_eq_true rfl), (Nat.le_of_ble_eq_true rfl), (Nat.le_of_ble_eq_true rfl)⟩ ?_
  show sh_cW _ _ (_, _, [.ref (A (20 + s))]) K L _ _ _ _ _
  refine sh_cp (fun w Z k => sh_astore_n dc_Hall_sync_12 rfl (by decide) k) ?_
  refine sh_cp (fun w Z k => sh_iload_n dc_Hall_sync_13 rfl rfl k) ?_
  refine sh_cp (fun w Z k => sh_lookup (off := 34) (tgt := 48) dc_Hall_sync_14 (by decide) (by decide) (by decide) k) ?_
  refine sh_cp (fun w Z k => sh_aload_n dc_Hall_sync_48 rfl rfl k) ?_
  refine sh_cget (20 + s) 0 dc_Hall_sync_49 (cw_oe (by omega) hk_s) rfl (by decide) fl_Hall_203 rfl rfl rfl rfl ?_
  exact sh_ce (fun w => sh_ireturn dc_Hall_sync_52 rfl rfl (by decide) (by decide))
theorem ct_Hall_sync_Semaphore_1_1 {A : Nat → Nat} {K : sh_II} {L : sh_DD} {s : Nat} (hs : s < 8) (hk_s : cw_cl (K 12 s) = 5) : sh_cM A md_Hall_sync [.ref (A 0), .int (nI s), .int 1] K L (.inl (some (.int (K 19 s)))) K L := by
  refine sh_cp (fun w Z k => sh_iload_n dc_Hall_sync_0 rfl rfl k) ?_
  refine sh_cp (fun w Z k => sh_iconst (v := 0) dc_Hall_sync_1 (by decide) k) ?_
  refine sh_cp (fun w Z k => sh_bipush (v := 8) dc_Hall_sync_2 (by decide) k) ?_
  refine sh_ccall (fun w hw => sh_stat (As := [.int 1, .int 0, .int 8]) dc_Hall_sync_4 lm_Hall_checkNumber ln_Hall_39 wd_191 wd_49 rfl rfl (Nat.le_of_ble_eq_true rfl)) (ct_Hall_checkNumber_2 (x := 1) (lo := 0) (hi := 8) (by decide) (by decide)) ⟨(Nat.le_of_ble_eq_true rfl), (Nat.le_of_ble_eq_true rfl), (Nat.le_of_ble_eq_true rfl), (Nat.le_of_ble_eq_true rfl)⟩ ?_
  show sh_cW _ _ (_, _, []) K L _ _ _ _ _
  refine sh_cp (fun w Z k => sh_aload_n dc_Hall_sync_7 rfl rfl k) ?_
  refine sh_cp (fun w Z k => sh_iload_n dc_Hall_sync_8 rfl rfl k) ?_
  refine sh_ccall (fun w hw => sh_virt (As := [.int (nI s)]) dc_Hall_sync_9 lm_Hall_syncAt ln_Hall_73 wd_272 wd_2 rfl rfl (Nat.le_of_ble_eq_true rfl) (hw _ _ cw_o0) rfl) (ct_Hall_syncAt_2 (s := s) (by omega) (cw_nz hk_s (by decide))) ⟨(Nat.le_of_ble_eq_true rfl), (Nat.le_of_ble_eq_true rfl), (Nat.le_of_ble_eq_true rfl), (Nat.le_of_ble_eq_true rfl)⟩ ?_
  show sh_cW _ _ (_, _, [.ref (A (20 + s))]) K L _ _ _ _ _
  refine sh_cp (fun w Z k => sh_astore_n dc_Hall_sync_12 rfl (by decide) k) ?_
  refine sh_cp (fun w Z k => sh_iload_n dc_Hall_sync_13 rfl rfl k) ?_
  refine sh_cp (fun w Z k => sh_lookup (off := 39) (tgt := 53) dc_Hall_sync_14 (by decide) (by decide) (by decide) k) ?_
  refine sh_cp (fun w Z k => sh_aload_n dc_Hall_sync_53 rfl rfl k) ?_
  refine sh_cget (20 + s) 1 dc_Hall_sync_54 (cw_oe (by omega) hk_s) rfl (by decide) fl_Hall_206 rfl rfl rfl rfl ?_
  refine sh_ccall (fun w hw => sh_virt (As := []) dc_Hall_sync_57 lm_Waiters_size ln_Hall_134 wd_552 wd_12 rfl rfl (Nat.le_of_ble_eq_true rfl) (hw _ _ (cw_ot (by omega) (cw_nz hk_s (by decide)))) rfl) (ct_Waiters_size_1 (s := s) (by omega) (cw_nz hk_s (by decide))) ⟨(Nat.le_of_ble_eq_true rfl), (Nat.le_of_ble_eq_true rfl), (Nat.le_of_ble_eq_true rfl), (Nat.le_of_ble_eq_true rfl)⟩ ?_
  show sh_cW _ _ (_, _, [.int (K 19 s)]) K L _ _ _ _ _
  exact sh_ce (fun w => sh_ireturn dc_Hall_sync_60 rfl rfl (by decide) (by decide))
theorem ct_Hall_sync_Semaphore_2_1 {A : Nat → Nat} {K : sh_II} {L : sh_DD} {s : Nat} (hs : s < 8) (hk_s : cw_cl (K 12 s) = 5) (c0_73 : (K 19 s) ≤ 0) : sh_cM A md_Hall_sync [.ref (A 0), .int (nI s), .int 2] K L (.inl (some (.int (-1)))) K L := by
  refine sh_cp (fun w Z k => sh_iload_n dc_Hall_sync_0 rfl rfl k) ?_
  refine sh_cp (fun w Z k => sh_iconst (v := 0) dc_Hall_sync_1 (by decide) k) ?_
  refine sh_cp (fun w Z k => sh_bipush (v := 8) dc_Hall_sync_2 (by decide) k) ?_
  refine sh_ccall (fun w hw => sh_stat (As := [.int 2, .int 0, .int 8]) dc_Hall_sync_4 lm_Hall_checkNumber ln_Hall_39 wd_191 wd_49 rfl rfl (Nat.le_of_ble_eq_true rfl)) (ct_Hall_checkNumber_2 (x := 2) (lo := 0) (hi := 8) (by decide) (by decide)) ⟨(Nat.le_of_ble_eq_true rfl), (Nat.le_of_ble_eq_true rfl), (Nat.le_of_ble_eq_true rfl), (Nat.le_of_ble_eq_true rfl)⟩ ?_
  show sh_cW _ _ (_, _, []) K L _ _ _ _ _
  refine sh_cp (fun w Z k => sh_aload_n dc_Hall_sync_7 rfl rfl k) ?_
  refine sh_cp (fun w Z k => sh_iload_n dc_Hall_sync_8 rfl rfl k) ?_
  refine sh_ccall (fun w hw => sh_virt (As := [.int (nI s)]) dc_Hall_sync_9 lm_Hall_syncAt ln_Hall_73 wd_272 wd_2 rfl rfl (Nat.le_of_ble_eq_true rfl) (hw _ _ cw_o0) rfl) (ct_Hall_syncAt_2 (s := s) (by omega) (cw_nz hk_s (by decide))) ⟨(Nat.le_of_ble_eq_true rfl), (Nat.le_of_ble_eq_true rfl), (Nat.le_of_ble_eq_true rfl), (Nat.le_of_ble_eq_true rfl)⟩ ?_
  show sh_cW _ _ (_, _, [.ref (A (20 + s))]) K L _ _ _ _ _
  refine sh_cp (fun w Z k => sh_astore_n dc_Hall_sync_12 rfl (by decide) k) ?_
  refine sh_cp (fun w Z k => sh_iload_n dc_Hall_sync_13 rfl rfl k) ?_
  refine sh_cp (fun w Z k => sh_lookup (off := 52) (tgt := 66) dc_Hall_sync_14 (by decide) (by decide) (by decide) k) ?_
  refine sh_cp (fun w Z k => sh_aload_n dc_Hall_sync_66 rfl rfl k) ?_
  refine sh_cget (20 + s) 1 dc_Hall_sync_67 (cw_oe (by omega) hk_s) rfl (by decide) fl_Hall_206 rfl rfl rfl rfl ?_
  refine sh_cp (fun w Z k => sh_iload_n dc_Hall_sync_70 rfl rfl k) ?_
  refine sh_cp (fun w Z k => sh_iconst (v := 2) dc_Hall_sync_71 (by decide) k) ?_
  refine sh_cp (fun w Z k => sh_isub dc_Hall_sync_72 k) ?_
  refine sh_cti (show (2 - 2 : Int32) = 0 from by decide) ?_
  refine sh_ccall (fun w hw => sh_virt (As := [.int 0]) dc_Hall_sync_73 lm_Waiters_at ln_Hall_210 wd_690 wd_22 rfl rfl (Nat.le_of_ble_eq_true rfl) (hw _ _ (cw_ot (by omega) (cw_nz hk_s (by decide)))) rfl) (ct_Waiters_at_0_1 (s := s) (by omega) (cw_nz hk_s (by decide)) c0_73) ⟨(Nat.le_of_ble_eq_true rfl), (Nat.le_of_ble_eq_true rfl), (Nat.le_of_ble_eq_true rfl), (Nat.le_of_ble_eq_true rfl)⟩ ?_
  show sh_cW _ _ (_, _, [.null]) K L _ _ _ _ _
  refine sh_cp (fun w Z k => sh_astoreN dc_Hall_sync_76 (by decide) k) ?_
  refine sh_cp (fun w Z k => sh_aloadq (x := none) dc_Hall_sync_78 rfl k) ?_
  show sh_cW _ _ (_, _, .null :: _) _ _ _ _ _ _ _
  refine sh_cp (fun w Z k => sh_ifnonnullN dc_Hall_sync_80 k) ?_
  refine sh_cp (fun w Z k => sh_iconst (v := (-1)) dc_Hall_sync_83 (by decide) k) ?_
  refine sh_cp (fun w Z k => sh_goto_ (tgt := 92) dc_Hall_sync_84 (by decide) k) ?_
  exact sh_ce (fun w => sh_ireturn dc_Hall_sync_92 rfl rfl (by decide) (by decide))
theorem ct_Hall_sync_Semaphore_2_2 {A : Nat → Nat} {K : sh_II} {L : sh_DD} {s : Nat} (hs : s < 8) (hk_s : cw_cl (K 12 s) = 5) (c0_73 : ¬ (K 19 s) ≤ 0) (c1_73 : (K 18 (6 * s + 0)) = -1) : sh_cM A md_Hall_sync [.ref (A 0), .int (nI s), .int 2] K L (.inl (some (.int (-1)))) K L := by
  refine sh_cp (fun w Z k => sh_iload_n dc_Hall_sync_0 rfl rfl k) ?_
  refine sh_cp (fun w Z k => sh_iconst (v := 0) dc_Hall_sync_1 (by decide) k) ?_
  refine sh_cp (fun w Z k => sh_bipush (v := 8) dc_Hall_sync_2 (by decide) k) ?_
  refine sh_ccall (fun w hw => sh_stat (As := [.int 2, .int 0, .int 8]) dc_Hall_sync_4 lm_Hall_checkNumber ln_Hall_39 wd_191 wd_49 rfl rfl (Nat.le_of_ble_eq_true rfl)) (ct_Hall_checkNumber_2 (x := 2) (lo := 0) (hi := 8) (by decide) (by decide)) ⟨(Nat.le_of_ble_eq_true rfl), (Nat.le_of_ble_eq_true rfl), (Nat.le_of_ble_eq_true rfl), (Nat.le_of_ble_eq_true rfl)⟩ ?_
  show sh_cW _ _ (_, _, []) K L _ _ _ _ _
  refine sh_cp (fun w Z k => sh_aload_n dc_Hall_sync_7 rfl rfl k) ?_
  refine sh_cp (fun w Z k => sh_iload_n dc_Hall_sync_8 rfl rfl k) ?_
  refine sh_ccall (fun w hw => sh_virt (As := [.int (nI s)]) dc_Hall_sync_9 lm_Hall_syncAt ln_Hall_73 wd_272 wd_2 rfl rfl (Nat.le_of_ble_eq_true rfl) (hw _ _ cw_o0) rfl) (ct_Hall_syncAt_2 (s := s) (by omega) (cw_nz hk_s (by decide))) ⟨(Nat.le_of_ble_eq_true rfl), (Nat.le_of_ble_eq_true rfl), (Nat.le_of_ble_eq_true rfl), (Nat.le_of_ble_eq_true rfl)⟩ ?_
  show sh_cW _ _ (_, _, [.ref (A (20 + s))]) K L _ _ _ _ _
  refine sh_cp (fun w Z k => sh_astore_n dc_Hall_sync_12 rfl (by decide) k) ?_
  refine sh_cp (fun w Z k => sh_iload_n dc_Hall_sync_13 rfl rfl k) ?_
  refine sh_cp (fun w Z k => sh_lookup (off := 52) (tgt := 66) dc_Hall_sync_14 (by decide) (by decide) (by decide) k) ?_
  refine sh_cp (fun w Z k => sh_aload_n dc_Hall_sync_66 rfl rfl k) ?_
  refine sh_cget (20 + s) 1 dc_Hall_sync_67 (cw_oe (by omega) hk_s) rfl (by decide) fl_Hall_206 rfl rfl rfl rfl ?_
  refine sh_cp (fun w Z k => sh_iload_n dc_Hall_sync_70 rfl rfl k) ?_
  refine sh_cp (fun w Z k => sh_iconst (v := 2) dc_Hall_sync_71 (by decide) k) ?_
  refine sh_cp (fun w Z k => sh_isub dc_Hall_sync_72 k) ?_
  refine sh_cti (show (2 - 2 : Int32) = 0 from by decide) ?_
  refine sh_ccall (fun w hw => sh_virt (As := [.int 0]) dc_Hall_sync_73 lm_Waiters_at ln_Hall_210 wd_690 wd_22 rfl rfl (Nat.le_of_ble_eq_true rfl) (hw _ _ (cw_ot (by omega) (cw_nz hk_s (by decide)))) rfl) (ct_Waiters_at_0_2 (s := s) (by omega) (cw_nz hk_s (by decide)) c0_73 c1_73) ⟨(Nat.le_of_ble_eq_true rfl), (Nat.le_of_ble_eq_true rfl), (Nat.le_of_ble_eq_true rfl), (Nat.le_of_ble_eq_true rfl)⟩ ?_
  show sh_cW _ _ (_, _, [.null]) K L _ _ _ _ _
  refine sh_cp (fun w Z k => sh_astoreN dc_Hall_sync_76 (by decide) k) ?_
  refine sh_cp (fun w Z k => sh_aloadq (x := none) dc_Hall_sync_78 rfl k) ?_
  show sh_cW _ _ (_, _, .null :: _) _ _ _ _ _ _ _
  refine sh_cp (fun w Z k => sh_ifnonnullN dc_Hall_sync_80 k) ?_
  refine sh_cp (fun w Z k => sh_iconst (v := (-1)) dc_Hall_sync_83 (by decide) k) ?_
  refine sh_cp (fun w Z k => sh_goto_ (tgt := 92) dc_Hall_sync_84 (by decide) k) ?_
  exact sh_ce (fun w => sh_ireturn dc_Hall_sync_92 rfl rfl (by decide) (by decide))
theorem ct_Hall_sync_Semaphore_2_3 {A : Nat → Nat} {K : sh_II} {L : sh_DD} {s : Nat} {u18_73 : Nat} (hs : s < 8) (hk_s : cw_cl (K 12 s) = 5) (c0_73 : ¬ (K 19 s) ≤ 0) (hu18_73 : u18_73 < 6) (c2_73 : (K 18 (6 * s + 0)) = nI u18_73) : sh_cM A md_Hall_sync [.ref (A 0), .int (nI s), .int 2] K L (.inl (some (.int (nI u18_73)))) K L := by
  refine sh_cp (fun w Z k => sh_iload_n dc_Hall_sync_0 rfl rfl k) ?_
  refine sh_cp (fun w Z k => sh_iconst (v := 0) dc_Hall_sync_1 (by decide) k) ?_
  refine sh_cp (fun w Z k => sh_bipush (v := 8) dc_Hall_sync_2 (by decide) k) ?_
  refine sh_ccall (fun w hw => sh_stat (As := [.int 2, .int 0, .int 8]) dc_Hall_sync_4 lm_Hall_checkNumber ln_Hall_39 wd_191 wd_49 rfl rfl (Nat.le_of_ble_eq_true rfl)) (ct_Hall_checkNumber_2 (x := 2) (lo := 0) (hi := 8) (by decide) (by decide)) ⟨(Nat.le_of_ble_eq_true rfl), (Nat.le_of_ble_eq_true rfl), (Nat.le_of_ble_eq_true rfl), (Nat.le_of_ble_eq_true rfl)⟩ ?_
  show sh_cW _ _ (_, _, []) K L _ _ _ _ _
  refine sh_cp (fun w Z k => sh_aload_n dc_Hall_sync_7 rfl rfl k) ?_
  refine sh_cp (fun w Z k => sh_iload_n dc_Hall_sync_8 rfl rfl k) ?_
  refine sh_ccall (fun w hw => sh_virt (As := [.int (nI s)]) dc_Hall_sync_9 lm_Hall_syncAt ln_Hall_73 wd_272 wd_2 rfl rfl (Nat.le_of_ble_eq_true rfl) (hw _ _ cw_o0) rfl) (ct_Hall_syncAt_2 (s := s) (by omega) (cw_nz hk_s (by decide))) ⟨(Nat.le_of_ble_eq_true rfl), (Nat.le_of_ble_eq_true rfl), (Nat.le_of_ble_eq_true rfl), (Nat.le_of_ble_eq_true rfl)⟩ ?_
  show sh_cW _ _ (_, _, [.ref (A (20 + s))]) K L _ _ _ _ _
  refine sh_cp (fun w Z k => sh_astore_n dc_Hall_sync_12 rfl (by decide) k) ?_
  refine sh_cp (fun w Z k => sh_iload_n dc_Hall_sync_13 rfl rfl k) ?_
  refine sh_cp (fun w Z k => sh_lookup (off := 52) (tgt := 66) dc_Hall_sync_14 (by decide) (by decide) (by decide) k) ?_
  refine sh_cp (fun w Z k => sh_aload_n dc_Hall_sync_66 rfl rfl k) ?_
  refine sh_cget (20 + s) 1 dc_Hall_sync_67 (cw_oe (by omega) hk_s) rfl (by decide) fl_Hall_206 rfl rfl rfl rfl ?_
  refine sh_cp (fun w Z k => sh_iload_n dc_Hall_sync_70 rfl rfl k) ?_
  refine sh_cp (fun w Z k => sh_iconst (v := 2) dc_Hall_sync_71 (by decide) k) ?_
  refine sh_cp (fun w Z k => sh_isub dc_Hall_sync_72 k) ?_
  refine sh_cti (show (2 - 2 : Int32) = 0 from by decide) ?_
  refine sh_ccall (fun w hw => sh_virt (As := [.int 0]) dc_Hall_sync_73 lm_Waiters_at ln_Hall_210 wd_690 wd_22 rfl rfl (Nat.le_of_ble_eq_true rfl) (hw _ _ (cw_ot (by omega) (cw_nz hk_s (by decide)))) rfl) (ct_Waiters_at_0_3 (s := s) (u18_17 := u18_73) (by omega) (cw_nz hk_s (by decide)) c0_73 (by omega) c2_73) ⟨(Nat.le_of_ble_eq_true rfl), (Nat.le_of_ble_eq_true rfl), (Nat.le_of_ble_eq_true rfl), (Nat.le_of_ble_eq_true rfl)⟩ ?_
  show sh_cW _ _ (_, _, [.ref (A (10 + u18_73))]) K L _ _ _ _ _
  refine sh_cp (fun w Z k => sh_astore dc_Hall_sync_76 (by decide) k) ?_
  refine sh_cp (fun w Z k => sh_aload dc_Hall_sync_78 rfl k) ?_
  refine sh_cp (fun w Z k => sh_ifnonnull (tgt := 87) dc_Hall_sync_80 (by decide) k) ?_
  refine sh_cp (fun w Z k => sh_aload dc_Hall_sync_87 rfl k) ?_
  refine sh_cget (10 + u18_73) 0 dc_Hall_sync_89 (cw_ow (by omega)) rfl (by decide) fl_Hall_213 rfl rfl rfl rfl ?_
  exact sh_ce (fun w => sh_ireturn dc_Hall_sync_92 rfl rfl (by decide) (by decide))
theorem ct_Hall_sync_Semaphore_3_1 {A : Nat → Nat} {K : sh_II} {L : sh_DD} {s : Nat} (hs : s < 8) (hk_s : cw_cl (K 12 s) = 5) (c0_73 : (K 19 s) ≤ (nI 1)) : sh_cM A md_Hall_sync [.ref (A 0), .int (nI s), .int 3] K L (.inl (some (.int (-1)))) K L := by
  refine sh_cp (fun w Z k => sh_iload_n dc_Hall_sync_0 rfl rfl k) ?_
  refine sh_cp (fun w Z k => sh_iconst (v := 0) dc_Hall_sync_1 (by decide) k) ?_
  refine sh_cp (fun w Z k => sh_bipush (v := 8) dc_Hall_sync_2 (by decide) k) ?_
  refine sh_ccall (fun w hw => sh_stat (As := [.int 3, .int 0, .int 8]) dc_Hall_sync_4 lm_Hall_checkNumber ln_Hall_39 wd_191 wd_49 rfl rfl (Nat.le_of_ble_eq_true rfl)) (ct_Hall_checkNumber_2 (x := 3) (lo := 0) (hi := 8) (by decide) (by decide)) ⟨(Nat.le_of_ble_eq_true rfl), (Nat.le_of_ble_eq_true rfl), (Nat.le_of_ble_eq_true rfl), (Nat.le_of_ble_eq_true rfl)⟩ ?_
  show sh_cW _ _ (_, _, []) K L _ _ _ _ _
  refine sh_cp (fun w Z k => sh_aload_n dc_Hall_sync_7 rfl rfl k) ?_
  refine sh_cp (fun w Z k => sh_iload_n dc_Hall_sync_8 rfl rfl k) ?_
  refine sh_ccall (fun w hw => sh_virt (As := [.int (nI s)]) dc_Hall_sync_9 lm_Hall_syncAt ln_Hall_73 wd_272 wd_2 rfl rfl (Nat.le_of_ble_eq_true rfl) (hw _ _ cw_o0) rfl) (ct_Hall_syncAt_2 (s := s) (by omega) (cw_nz hk_s (by decide))) ⟨(Nat.le_of_ble_eq_true rfl), (Nat.le_of_ble_eq_true rfl), (Nat.le_of_ble_eq_true rfl), (Nat.le_of_ble_eq_true rfl)⟩ ?_
  show sh_cW _ _ (_, _, [.ref (A (20 + s))]) K L _ _ _ _ _
  refine sh_cp (fun w Z k => sh_astore_n dc_Hall_sync_12 rfl (by decide) k) ?_
  refine sh_cp (fun w Z k => sh_iload_n dc_Hall_sync_13 rfl rfl k) ?_
  refine sh_cp (fun w Z k => sh_lookup (off := 52) (tgt := 66) dc_Hall_sync_14 (by decide) (by decide) (by decide) k) ?_
  refine sh_cp (fun w Z k => sh_aload_n dc_Hall_sync_66 rfl rfl k) ?_
  refine sh_cget (20 + s) 1 dc_Hall_sync_67 (cw_oe (by omega) hk_s) rfl (by decide) fl_Hall_206 rfl rfl rfl rfl ?_
  refine sh_cp (fun w Z k => sh_iload_n dc_Hall_sync_70 rfl rfl k) ?_
  refine sh_cp (fun w Z k => sh_iconst (v := 2) dc_Hall_sync_71 (by decide) k) ?_
  refine sh_cp (fun w Z k => sh_isub dc_Hall_sync_72 k) ?_
  refine sh_cti (show (3 - 2 : Int32) = 1 from by decide) ?_
  refine sh_ccall (fun w hw => sh_virt (As := [.int 1]) dc_Hall_sync_73 lm_Waiters_at ln_Hall_210 wd_690 wd_22 rfl rfl (Nat.le_of_ble_eq_true rfl) (hw _ _ (cw_ot (by omega) (cw_nz hk_s (by decide)))) rfl) (ct_Waiters_at_1 (s := s) (i := 1) (by omega) (cw_nz hk_s (by decide)) (by omega) c0_73) ⟨(Nat.le_of_ble_eq_true rfl), (Nat.le_of_ble_eq_true rfl), (Nat.le_of_ble_eq_true rfl), (Nat.le_of_ble_eq_true rfl)⟩ ?_
  show sh_cW _ _ (_, _, [.null]) K L _ _ _ _ _
  refine sh_cp (fun w Z k => sh_astoreN dc_Hall_sync_76 (by decide) k) ?_
  refine sh_cp (fun w Z k => sh_aloadq (x := none) dc_Hall_sync_78 rfl k) ?_
  show sh_cW _ _ (_, _, .null :: _) _ _ _ _ _ _ _
  refine sh_cp (fun w Z k => sh_ifnonnullN dc_Hall_sync_80 k) ?_
  refine sh_cp (fun w Z k => sh_iconst (v := (-1)) dc_Hall_sync_83 (by decide) k) ?_
  refine sh_cp (fun w Z k => sh_goto_ (tgt := 92) dc_Hall_sync_84 (by decide) k) ?_
  exact sh_ce (fun w => sh_ireturn dc_Hall_sync_92 rfl rfl (by decide) (by decide))
theorem ct_Hall_sync_Semaphore_3_2 {A : Nat → Nat} {K : sh_II} {L : sh_DD} {s : Nat} (hs : s < 8) (hk_s : cw_cl (K 12 s) = 5) (c0_73 : ¬ (K 19 s) ≤ (nI 1)) (c1_73 : (K 18 (6 * s + 1)) = -1) : sh_cM A md_Hall_sync [.ref (A 0), .int (nI s), .int 3] K L (.inl (some (.int (-1)))) K L := by
  refine sh_cp (fun w Z k => sh_iload_n dc_Hall_sync_0 rfl rfl k) ?_
  refine sh_cp (fun w Z k => sh_iconst (v := 0) dc_Hall_sync_1 (by decide) k) ?_
  refine sh_cp (fun w Z k => sh_bipush (v := 8) dc_Hall_sync_2 (by decide) k) ?_
  refine sh_ccall (fun w hw => sh_stat (As := [.int 3, .int 0, .int 8]) dc_Hall_sync_4 lm_Hall_checkNumber ln_Hall_39 wd_191 wd_49 rfl rfl (Nat.le_of_ble_eq_true rfl)) (ct_Hall_checkNumber_2 (x := 3) (lo := 0) (hi := 8) (by decide) (by decide)) ⟨(Nat.le_of_ble_eq_true rfl), (Nat.le_of_ble_eq_true rfl), (Nat.le_of_ble_eq_true rfl), (Nat.le_of_ble_eq_true rfl)⟩ ?_
  show sh_cW _ _ (_, _, []) K L _ _ _ _ _
  refine sh_cp (fun w Z k => sh_aload_n dc_Hall_sync_7 rfl rfl k) ?_
  refine sh_cp (fun w Z k => sh_iload_n dc_Hall_sync_8 rfl rfl k) ?_
  refine sh_ccall (fun w hw => sh_virt (As := [.int (nI s)]) dc_Hall_sync_9 lm_Hall_syncAt ln_Hall_73 wd_272 wd_2 rfl rfl (Nat.le_of_ble_eq_true rfl) (hw _ _ cw_o0) rfl) (ct_Hall_syncAt_2 (s := s) (by omega) (cw_nz hk_s (by decide))) ⟨(Nat.le_of_ble_eq_true rfl), (Nat.le_of_ble_eq_true rfl), (Nat.le_of_ble_eq_true rfl), (Nat.le_of_ble_eq_true rfl)⟩ ?_
  show sh_cW _ _ (_, _, [.ref (A (20 + s))]) K L _ _ _ _ _
  refine sh_cp (fun w Z k => sh_astore_n dc_Hall_sync_12 rfl (by decide) k) ?_
  refine sh_cp (fun w Z k => sh_iload_n dc_Hall_sync_13 rfl rfl k) ?_
  refine sh_cp (fun w Z k => sh_lookup (off := 52) (tgt := 66) dc_Hall_sync_14 (by decide) (by decide) (by decide) k) ?_
  refine sh_cp (fun w Z k => sh_aload_n dc_Hall_sync_66 rfl rfl k) ?_
  refine sh_cget (20 + s) 1 dc_Hall_sync_67 (cw_oe (by omega) hk_s) rfl (by decide) fl_Hall_206 rfl rfl rfl rfl ?_
  refine sh_cp (fun w Z k => sh_iload_n dc_Hall_sync_70 rfl rfl k) ?_
  refine sh_cp (fun w Z k => sh_iconst (v := 2) dc_Hall_sync_71 (by decide) k) ?_
  refine sh_cp (fun w Z k => sh_isub dc_Hall_sync_72 k) ?_
  refine sh_cti (show (3 - 2 : Int32) = 1 from by decide) ?_
  refine sh_ccall (fun w hw => sh_virt (As := [.int 1]) dc_Hall_sync_73 lm_Waiters_at ln_Hall_210 wd_690 wd_22 rfl rfl (Nat.le_of_ble_eq_true rfl) (hw _ _ (cw_ot (by omega) (cw_nz hk_s (by decide)))) rfl) (ct_Waiters_at_2 (s := s) (i := 1) (by omega) (cw_nz hk_s (by decide)) (by omega) c0_73 c1_73) ⟨(Nat.le_of_ble_eq_true rfl), (Nat.le_of_ble_eq_true rfl), (Nat.le_of_ble_eq_true rfl), (Nat.le_of_ble_eq_true rfl)⟩ ?_
  show sh_cW _ _ (_, _, [.null]) K L _ _ _ _ _
  refine sh_cp (fun w Z k => sh_astoreN dc_Hall_sync_76 (by decide) k) ?_
  refine sh_cp (fun w Z k => sh_aloadq (x := none) dc_Hall_sync_78 rfl k) ?_
  show sh_cW _ _ (_, _, .null :: _) _ _ _ _ _ _ _
  refine sh_cp (fun w Z k => sh_ifnonnullN dc_Hall_sync_80 k) ?_
  refine sh_cp (fun w Z k => sh_iconst (v := (-1)) dc_Hall_sync_83 (by decide) k) ?_
  refine sh_cp (fun w Z k => sh_goto_ (tgt := 92) dc_Hall_sync_84 (by decide) k) ?_
  exact sh_ce (fun w => sh_ireturn dc_Hall_sync_92 rfl rfl (by decide) (by decide))
theorem ct_Hall_sync_Semaphore_3_3 {A : Nat → Nat} {K : sh_II} {L : sh_DD} {s : Nat} {u18_73 : Nat} (hs : s < 8) (hk_s : cw_cl (K 12 s) = 5) (c0_73 : ¬ (K 19 s) ≤ (nI 1)) (hu18_73 : u18_73 < 6) (c2_73 : (K 18 (6 * s + 1)) = nI u18_73) : sh_cM A md_Hall_sync [.ref (A 0), .int (nI s), .int 3] K L (.inl (some (.int (nI u18_73)))) K L := by
  refine sh_cp (fun w Z k => sh_iload_n dc_Hall_sync_0 rfl rfl k) ?_
  refine sh_cp (fun w Z k => sh_iconst (v := 0) dc_Hall_sync_1 (by decide) k) ?_
  refine sh_cp (fun w Z k => sh_bipush (v := 8) dc_Hall_sync_2 (by decide) k) ?_
  refine sh_ccall (fun w hw => sh_stat (As := [.int 3, .int 0, .int 8]) dc_Hall_sync_4 lm_Hall_checkNumber ln_Hall_39 wd_191 wd_49 rfl rfl (Nat.le_of_ble_eq_true rfl)) (ct_Hall_checkNumber_2 (x := 3) (lo := 0) (hi := 8) (by decide) (by decide)) ⟨(Nat.le_of_ble_eq_true rfl), (Nat.le_of_ble_eq_true rfl), (Nat.le_of_ble_eq_true rfl), (Nat.le_of_ble_eq_true rfl)⟩ ?_
  show sh_cW _ _ (_, _, []) K L _ _ _ _ _
  refine sh_cp (fun w Z k => sh_aload_n dc_Hall_sync_7 rfl rfl k) ?_
  refine sh_cp (fun w Z k => sh_iload_n dc_Hall_sync_8 rfl rfl k) ?_
  refine sh_ccall (fun w hw => sh_virt (As := [.int (nI s)]) dc_Hall_sync_9 lm_Hall_syncAt ln_Hall_73 wd_272 wd_2 rfl rfl (Nat.le_of_ble_eq_true rfl) (hw _ _ cw_o0) rfl) (ct_Hall_syncAt_2 (s := s) (by omega) (cw_nz hk_s (by decide))) ⟨(Nat.le_of_ble_eq_true rfl), (Nat.le_of_ble_eq_true rfl), (Nat.le_of_ble_eq_true rfl), (Nat.le_of_ble_eq_true rfl)⟩ ?_
  show sh_cW _ _ (_, _, [.ref (A (20 + s))]) K L _ _ _ _ _
  refine sh_cp (fun w Z k => sh_astore_n dc_Hall_sync_12 rfl (by decide) k) ?_
  refine sh_cp (fun w Z k => sh_iload_n dc_Hall_sync_13 rfl rfl k) ?_
  refine sh_cp (fun w Z k => sh_lookup (off := 52) (tgt := 66) dc_Hall_sync_14 (by decide) (by decide) (by decide) k) ?_
  refine sh_cp (fun w Z k => sh_aload_n dc_Hall_sync_66 rfl rfl k) ?_
  refine sh_cget (20 + s) 1 dc_Hall_sync_67 (cw_oe (by omega) hk_s) rfl (by decide) fl_Hall_206 rfl rfl rfl rfl ?_
  refine sh_cp (fun w Z k => sh_iload_n dc_Hall_sync_70 rfl rfl k) ?_
  refine sh_cp (fun w Z k => sh_iconst (v := 2) dc_Hall_sync_71 (by decide) k) ?_
  refine sh_cp (fun w Z k => sh_isub dc_Hall_sync_72 k) ?_
  refine sh_cti (show (3 - 2 : Int32) = 1 from by decide) ?_
  refine sh_ccall (fun w hw => sh_virt (As := [.int 1]) dc_Hall_sync_73 lm_Waiters_at ln_Hall_210 wd_690 wd_22 rfl rfl (Nat.le_of_ble_eq_true rfl) (hw _ _ (cw_ot (by omega) (cw_nz hk_s (by decide)))) rfl) (ct_Waiters_at_3 (s := s) (i := 1) (u18_17 := u18_73) (by omega) (cw_nz hk_s (by decide)) (by omega) c0_73 (by omega) c2_73) ⟨(Nat.le_of_ble_eq_true rfl), (Nat.le_of_ble_eq_true rfl), (Nat.le_of_ble_eq_true rfl), (Nat.le_of_ble_eq_true rfl)⟩ ?_
  show sh_cW _ _ (_, _, [.ref (A (10 + u18_73))]) K L _ _ _ _ _
  refine sh_cp (fun w Z k => sh_astore dc_Hall_sync_76 (by decide) k) ?_
  refine sh_cp (fun w Z k => sh_aload dc_Hall_sync_78 rfl k) ?_
  refine sh_cp (fun w Z k => sh_ifnonnull (tgt := 87) dc_Hall_sync_80 (by decide) k) ?_
  refine sh_cp (fun w Z k => sh_aload dc_Hall_sync_87 rfl k) ?_
  refine sh_cget (10 + u18_73) 0 dc_Hall_sync_89 (cw_ow (by omega)) rfl (by decide) fl_Hall_213 rfl rfl rfl rfl ?_
  exact sh_ce (fun w => sh_ireturn dc_Hall_sync_92 rfl rfl (by decide) (by decide))
theorem ct_Hall_sync_Semaphore_4_1 {A : Nat → Nat} {K : sh_II} {L : sh_DD} {s : Nat} (hs : s < 8) (hk_s : cw_cl (K 12 s) = 5) (c0_73 : (K 19 s) ≤ (nI 2)) : sh_cM A md_Hall_sync [.ref (A 0), .int (nI s), .int 4] K L (.inl (some (.int (-1)))) K L := by
  refine sh_cp (fun w Z k => sh_iload_n dc_Hall_sync_0 rfl rfl k) ?_
  refine sh_cp (fun w Z k => sh_iconst (v := 0) dc_Hall_sync_1 (by decide) k) ?_
  refine sh_cp (fun w Z k => sh_bipush (v := 8) dc_Hall_sync_2 (by decide) k) ?_
  refine sh_ccall (fun w hw => sh_stat (As := [.int 4, .int 0, .int 8]) dc_Hall_sync_4 lm_Hall_checkNumber ln_Hall_39 wd_191 wd_49 rfl rfl (Nat.le_of_ble_eq_true rfl)) (ct_Hall_checkNumber_2 (x := 4) (lo := 0) (hi := 8) (by decide) (by decide)) ⟨(Nat.le_of_ble_eq_true rfl), (Nat.le_of_ble_eq_true rfl), (Nat.le_of_ble_eq_true rfl), (Nat.le_of_ble_eq_true rfl)⟩ ?_
  show sh_cW _ _ (_, _, []) K L _ _ _ _ _
  refine sh_cp (fun w Z k => sh_aload_n dc_Hall_sync_7 rfl rfl k) ?_
  refine sh_cp (fun w Z k => sh_iload_n dc_Hall_sync_8 rfl rfl k) ?_
  refine sh_ccall (fun w hw => sh_virt (As := [.int (nI s)]) dc_Hall_sync_9 lm_Hall_syncAt ln_Hall_73 wd_272 wd_2 rfl rfl (Nat.le_of_ble_eq_true rfl) (hw _ _ cw_o0) rfl) (ct_Hall_syncAt_2 (s := s) (by omega) (cw_nz hk_s (by decide))) ⟨(Nat.le_of_ble_eq_true rfl), (Nat.le_of_ble_eq_true rfl), (Nat.le_of_ble_eq_true rfl), (Nat.le_of_ble_eq_true rfl)⟩ ?_
  show sh_cW _ _ (_, _, [.ref (A (20 + s))]) K L _ _ _ _ _
  refine sh_cp (fun w Z k => sh_astore_n dc_Hall_sync_12 rfl (by decide) k) ?_
  refine sh_cp (fun w Z k => sh_iload_n dc_Hall_sync_13 rfl rfl k) ?_
  refine sh_cp (fun w Z k => sh_lookup (off := 52) (tgt := 66) dc_Hall_sync_14 (by decide) (by decide) (by decide) k) ?_
  refine sh_cp (fun w Z k => sh_aload_n dc_Hall_sync_66 rfl rfl k) ?_
  refine sh_cget (20 + s) 1 dc_Hall_sync_67 (cw_oe (by omega) hk_s) rfl (by decide) fl_Hall_206 rfl rfl rfl rfl ?_
  refine sh_cp (fun w Z k => sh_iload_n dc_Hall_sync_70 rfl rfl k) ?_
  refine sh_cp (fun w Z k => sh_iconst (v := 2) dc_Hall_sync_71 (by decide) k) ?_
  refine sh_cp (fun w Z k => sh_isub dc_Hall_sync_72 k) ?_
  refine sh_cti (show (4 - 2 : Int32) = 2 from by decide) ?_
  refine sh_ccall (fun w hw => sh_virt (As := [.int 2]) dc_Hall_sync_73 lm_Waiters_at ln_Hall_210 wd_690 wd_22 rfl rfl (Nat.le_of_ble_eq_true rfl) (hw _ _ (cw_ot (by omega) (cw_nz hk_s (by decide)))) rfl) (ct_Waiters_at_1 (s := s) (i := 2) (by omega) (cw_nz hk_s (by decide)) (by omega) c0_73) ⟨(Nat.le_of_ble_eq_true rfl), (Nat.le_of_ble_eq_true rfl), (Nat.le_of_ble_eq_true rfl), (Nat.le_of_ble_eq_true rfl)⟩ ?_
  show sh_cW _ _ (_, _, [.null]) K L _ _ _ _ _
  refine sh_cp (fun w Z k => sh_astoreN dc_Hall_sync_76 (by decide) k) ?_
  refine sh_cp (fun w Z k => sh_aloadq (x := none) dc_Hall_sync_78 rfl k) ?_
  show sh_cW _ _ (_, _, .null :: _) _ _ _ _ _ _ _
  refine sh_cp (fun w Z k => sh_ifnonnullN dc_Hall_sync_80 k) ?_
  refine sh_cp (fun w Z k => sh_iconst (v := (-1)) dc_Hall_sync_83 (by decide) k) ?_
  refine sh_cp (fun w Z k => sh_goto_ (tgt := 92) dc_Hall_sync_84 (by decide) k) ?_
  exact sh_ce (fun w => sh_ireturn dc_Hall_sync_92 rfl rfl (by decide) (by decide))
theorem ct_Hall_sync_Semaphore_4_2 {A : Nat → Nat} {K : sh_II} {L : sh_DD} {s : Nat} (hs : s < 8) (hk_s : cw_cl (K 12 s) = 5) (c0_73 : ¬ (K 19 s) ≤ (nI 2)) (c1_73 : (K 18 (6 * s + 2)) = -1) : sh_cM A md_Hall_sync [.ref (A 0), .int (nI s), .int 4] K L (.inl (some (.int (-1)))) K L := by
  refine sh_cp (fun w Z k => sh_iload_n dc_Hall_sync_0 rfl rfl k) ?_
  refine sh_cp (fun w Z k => sh_iconst (v := 0) dc_Hall_sync_1 (by decide) k) ?_
  refine sh_cp (fun w Z k => sh_bipush (v := 8) dc_Hall_sync_2 (by decide) k) ?_
  refine sh_ccall (fun w hw => sh_stat (As := [.int 4, .int 0, .int 8]) dc_Hall_sync_4 lm_Hall_checkNumber ln_Hall_39 wd_191 wd_49 rfl rfl (Nat.le_of_ble_eq_true rfl)) (ct_Hall_checkNumber_2 (x := 4) (lo := 0) (hi := 8) (by decide) (by decide)) ⟨(Nat.le_of_ble_eq_true rfl), (Nat.le_of_ble_eq_true rfl), (Nat.le_of_ble_eq_true rfl), (Nat.le_of_ble_eq_true rfl)⟩ ?_
  show sh_cW _ _ (_, _, []) K L _ _ _ _ _
  refine sh_cp (fun w Z k => sh_aload_n dc_Hall_sync_7 rfl rfl k) ?_
  refine sh_cp (fun w Z k => sh_iload_n dc_Hall_sync_8 rfl rfl k) ?_
  refine sh_ccall (fun w hw => sh_virt (As := [.int (nI s)]) dc_Hall_sync_9 lm_Hall_syncAt ln_Hall_73 wd_272 wd_2 rfl rfl (Nat.le_of_ble_eq_true rfl) (hw _ _ cw_o0) rfl) (ct_Hall_syncAt_2 (s := s) (by omega) (cw_nz hk_s (by decide))) ⟨(Nat.le_of_ble_eq_true rfl), (Nat.le_of_ble_eq_true rfl), (Nat.le_of_ble_eq_true rfl), (Nat.le_of_ble_eq_true rfl)⟩ ?_
  show sh_cW _ _ (_, _, [.ref (A (20 + s))]) K L _ _ _ _ _
  refine sh_cp (fun w Z k => sh_astore_n dc_Hall_sync_12 rfl (by decide) k) ?_
  refine sh_cp (fun w Z k => sh_iload_n dc_Hall_sync_13 rfl rfl k) ?_
  refine sh_cp (fun w Z k => sh_lookup (off := 52) (tgt := 66) dc_Hall_sync_14 (by decide) (by decide) (by decide) k) ?_
  refine sh_cp (fun w Z k => sh_aload_n dc_Hall_sync_66 rfl rfl k) ?_
  refine sh_cget (20 + s) 1 dc_Hall_sync_67 (cw_oe (by omega) hk_s) rfl (by decide) fl_Hall_206 rfl rfl rfl rfl ?_
  refine sh_cp (fun w Z k => sh_iload_n dc_Hall_sync_70 rfl rfl k) ?_
  refine sh_cp (fun w Z k => sh_iconst (v := 2) dc_Hall_sync_71 (by decide) k) ?_
  refine sh_cp (fun w Z k => sh_isub dc_Hall_sync_72 k) ?_
  refine sh_cti (show (4 - 2 : Int32) = 2 from by decide) ?_
  refine sh_ccall (fun w hw => sh_virt (As := [.int 2]) dc_Hall_sync_73 lm_Waiters_at ln_Hall_210 wd_690 wd_22 rfl rfl (Nat.le_of_ble_eq_true rfl) (hw _ _ (cw_ot (by omega) (cw_nz hk_s (by decide)))) rfl) (ct_Waiters_at_2 (s := s) (i := 2) (by omega) (cw_nz hk_s (by decide)) (by omega) c0_73 c1_73) ⟨(Nat.le_of_ble_eq_true rfl), (Nat.le_of_ble_eq_true rfl), (Nat.le_of_ble_eq_true rfl), (Nat.le_of_ble_eq_true rfl)⟩ ?_
  show sh_cW _ _ (_, _, [.null]) K L _ _ _ _ _
  refine sh_cp (fun w Z k => sh_astoreN dc_Hall_sync_76 (by decide) k) ?_
  refine sh_cp (fun w Z k => sh_aloadq (x := none) dc_Hall_sync_78 rfl k) ?_
  show sh_cW _ _ (_, _, .null :: _) _ _ _ _ _ _ _
  refine sh_cp (fun w Z k => sh_ifnonnullN dc_Hall_sync_80 k) ?_
  refine sh_cp (fun w Z k => sh_iconst (v := (-1)) dc_Hall_sync_83 (by decide) k) ?_
  refine sh_cp (fun w Z k => sh_goto_ (tgt := 92) dc_Hall_sync_84 (by decide) k) ?_
  exact sh_ce (fun w => sh_ireturn dc_Hall_sync_92 rfl rfl (by decide) (by decide))
theorem ct_Hall_sync_Semaphore_4_3 {A : Nat → Nat} {K : sh_II} {L : sh_DD} {s : Nat} {u18_73 : Nat} (hs : s < 8) (hk_s : cw_cl (K 12 s) = 5) (c0_73 : ¬ (K 19 s) ≤ (nI 2)) (hu18_73 : u18_73 < 6) (c2_73 : (K 18 (6 * s + 2)) = nI u18_73) : sh_cM A md_Hall_sync [.ref (A 0), .int (nI s), .int 4] K L (.inl (some (.int (nI u18_73)))) K L := by
  refine sh_cp (fun w Z k => sh_iload_n dc_Hall_sync_0 rfl rfl k) ?_
  refine sh_cp (fun w Z k => sh_iconst (v := 0) dc_Hall_sync_1 (by decide) k) ?_
  refine sh_cp (fun w Z k => sh_bipush (v := 8) dc_Hall_sync_2 (by decide) k) ?_
  refine sh_ccall (fun w hw => sh_stat (As := [.int 4, .int 0, .int 8]) dc_Hall_sync_4 lm_Hall_checkNumber ln_Hall_39 wd_191 wd_49 rfl rfl (Nat.le_of_ble_eq_true rfl)) (ct_Hall_checkNumber_2 (x := 4) (lo := 0) (hi := 8) (by decide) (by decide)) ⟨(Nat.le_of_ble_eq_true rfl), (Nat.le_of_ble_eq_true rfl), (Nat.le_of_ble_eq_true rfl), (Nat.le_of_ble_eq_true rfl)⟩ ?_
  show sh_cW _ _ (_, _, []) K L _ _ _ _ _
  refine sh_cp (fun w Z k => sh_aload_n dc_Hall_sync_7 rfl rfl k) ?_
  refine sh_cp (fun w Z k => sh_iload_n dc_Hall_sync_8 rfl rfl k) ?_
  refine sh_ccall (fun w hw => sh_virt (As := [.int (nI s)]) dc_Hall_sync_9 lm_Hall_syncAt ln_Hall_73 wd_272 wd_2 rfl rfl (Nat.le_of_ble_eq_true rfl) (hw _ _ cw_o0) rfl) (ct_Hall_syncAt_2 (s := s) (by omega) (cw_nz hk_s (by decide))) ⟨(Nat.le_of_ble_eq_true rfl), (Nat.le_of_ble_eq_true rfl), (Nat.le_of_ble_eq_true rfl), (Nat.le_of_ble_eq_true rfl)⟩ ?_
  show sh_cW _ _ (_, _, [.ref (A (20 + s))]) K L _ _ _ _ _
  refine sh_cp (fun w Z k => sh_astore_n dc_Hall_sync_12 rfl (by decide) k) ?_
  refine sh_cp (fun w Z k => sh_iload_n dc_Hall_sync_13 rfl rfl k) ?_
  refine sh_cp (fun w Z k => sh_lookup (off := 52) (tgt := 66) dc_Hall_sync_14 (by decide) (by decide) (by decide) k) ?_
  refine sh_cp (fun w Z k => sh_aload_n dc_Hall_sync_66 rfl rfl k) ?_
  refine sh_cget (20 + s) 1 dc_Hall_sync_67 (cw_oe (by omega) hk_s) rfl (by decide) fl_Hall_206 rfl rfl rfl rfl ?_
  refine sh_cp (fun w Z k => sh_iload_n dc_Hall_sync_70 rfl rfl k) ?_
  refine sh_cp (fun w Z k => sh_iconst (v := 2) dc_Hall_sync_71 (by decide) k) ?_
  refine sh_cp (fun w Z k => sh_isub dc_Hall_sync_72 k) ?_
  refine sh_cti (show (4 - 2 : Int32) = 2 from by decide) ?_
  refine sh_ccall (fun w hw => sh_virt (As := [.int 2]) dc_Hall_sync_73 lm_Waiters_at ln_Hall_210 wd_690 wd_22 rfl rfl (Nat.le_of_ble_eq_true rfl) (hw _ _ (cw_ot (by omega) (cw_nz hk_s (by decide)))) rfl) (ct_Waiters_at_3 (s := s) (i := 2) (u18_17 := u18_73) (by omega) (cw_nz hk_s (by decide)) (by omega) c0_73 (by omega) c2_73) ⟨(Nat.le_of_ble_eq_true rfl), (Nat.le_of_ble_eq_true rfl), (Nat.le_of_ble_eq_true rfl), (Nat.le_of_ble_eq_true rfl)⟩ ?_
  show sh_cW _ _ (_, _, [.ref (A (10 + u18_73))]) K L _ _ _ _ _
  refine sh_cp (fun w Z k => sh_astore dc_Hall_sync_76 (by decide) k) ?_
  refine sh_cp (fun w Z k => sh_aload dc_Hall_sync_78 rfl k) ?_
  refine sh_cp (fun w Z k => sh_ifnonnull (tgt := 87) dc_Hall_sync_80 (by decide) k) ?_
  refine sh_cp (fun w Z k => sh_aload dc_Hall_sync_87 rfl k) ?_
  refine sh_cget (10 + u18_73) 0 dc_Hall_sync_89 (cw_ow (by omega)) rfl (by decide) fl_Hall_213 rfl rfl rfl rfl ?_
  exact sh_ce (fun w => sh_ireturn dc_Hall_sync_92 rfl rfl (by decide) (by decide))
theorem ct_Hall_sync_Semaphore_5_1 {A : Nat → Nat} {K : sh_II} {L : sh_DD} {s : Nat} (hs : s < 8) (hk_s : cw_cl (K 12 s) = 5) (c0_73 : (K 19 s) ≤ (nI 3)) : sh_cM A md_Hall_sync [.ref (A 0), .int (nI s), .int 5] K L (.inl (some (.int (-1)))) K L := by
  refine sh_cp (fun w Z k => sh_iload_n dc_Hall_sync_0 rfl rfl k) ?_
  refine sh_cp (fun w Z k => sh_iconst (v := 0) dc_Hall_sync_1 (by decide) k) ?_
  refine sh_cp (fun w Z k => sh_bipush (v := 8) dc_Hall_sync_2 (by decide) k) ?_
  refine sh_ccall (fun w hw => sh_stat (As := [.int 5, .int 0, .int 8]) dc_Hall_sync_4 lm_Hall_checkNumber ln_Hall_39 wd_191 wd_49 rfl rfl (Nat.le_of_ble_eq_true rfl)) (ct_Hall_checkNumber_2 (x := 5) (lo := 0) (hi := 8) (by decide) (by decide)) ⟨(Nat.le_of_ble_eq_true rfl), (Nat.le_of_ble_eq_true rfl), (Nat.le_of_ble_eq_true rfl), (Nat.le_of_ble_eq_true rfl)⟩ ?_
  show sh_cW _ _ (_, _, []) K L _ _ _ _ _
  refine sh_cp (fun w Z k => sh_aload_n dc_Hall_sync_7 rfl rfl k) ?_
  refine sh_cp (fun w Z k => sh_iload_n dc_Hall_sync_8 rfl rfl k) ?_
  refine sh_ccall (fun w hw => sh_virt (As := [.int (nI s)]) dc_Hall_sync_9 lm_Hall_syncAt ln_Hall_73 wd_272 wd_2 rfl rfl (Nat.le_of_ble_eq_true rfl) (hw _ _ cw_o0) rfl) (ct_Hall_syncAt_2 (s := s) (by omega) (cw_nz hk_s (by decide))) ⟨(Nat.le_of_ble_eq_true rfl), (Nat.le_of_ble_eq_true rfl), (Nat.le_of_ble_eq_true rfl), (Nat.le_of_ble_eq_true rfl)⟩ ?_
  show sh_cW _ _ (_, _, [.ref (A (20 + s))]) K L _ _ _ _ _
  refine sh_cp (fun w Z k => sh_astore_n dc_Hall_sync_12 rfl (by decide) k) ?_
  refine sh_cp (fun w Z k => sh_iload_n dc_Hall_sync_13 rfl rfl k) ?_
  refine sh_cp (fun w Z k => sh_lookup (off := 52) (tgt := 66) dc_Hall_sync_14 (by decide) (by decide) (by decide) k) ?_
  refine sh_cp (fun w Z k => sh_aload_n dc_Hall_sync_66 rfl rfl k) ?_
  refine sh_cget (20 + s) 1 dc_Hall_sync_67 (cw_oe (by omega) hk_s) rfl (by decide) fl_Hall_206 rfl rfl rfl rfl ?_
  refine sh_cp (fun w Z k => sh_iload_n dc_Hall_sync_70 rfl rfl k) ?_
  refine sh_cp (fun w Z k => sh_iconst (v := 2) dc_Hall_sync_71 (by decide) k) ?_
  refine sh_cp (fun w Z k => sh_isub dc_Hall_sync_72 k) ?_
  refine sh_cti (show (5 - 2 : Int32) = 3 from by decide) ?_
  refine sh_ccall (fun w hw => sh_virt (As := [.int 3]) dc_Hall_sync_73 lm_Waiters_at ln_Hall_210 wd_690 wd_22 rfl rfl (Nat.le_of_ble_eq_true rfl) (hw _ _ (cw_ot (by omega) (cw_nz hk_s (by decide)))) rfl) (ct_Waiters_at_1 (s := s) (i := 3) (by omega) (cw_nz hk_s (by decide)) (by omega) c0_73) ⟨(Nat.le_of_ble_eq_true rfl), (Nat.le_of_ble_eq_true rfl), (Nat.le_of_ble_eq_true rfl), (Nat.le_of_ble_eq_true rfl)⟩ ?_
  show sh_cW _ _ (_, _, [.null]) K L _ _ _ _ _
  refine sh_cp (fun w Z k => sh_astoreN dc_Hall_sync_76 (by decide) k) ?_
  refine sh_cp (fun w Z k => sh_aloadq (x := none) dc_Hall_sync_78 rfl k) ?_
  show sh_cW _ _ (_, _, .null :: _) _ _ _ _ _ _ _
  refine sh_cp (fun w Z k => sh_ifnonnullN dc_Hall_sync_80 k) ?_
  refine sh_cp (fun w Z k => sh_iconst (v := (-1)) dc_Hall_sync_83 (by decide) k) ?_
  refine sh_cp (fun w Z k => sh_goto_ (tgt := 92) dc_Hall_sync_84 (by decide) k) ?_
  exact sh_ce (fun w => sh_ireturn dc_Hall_sync_92 rfl rfl (by decide) (by decide))
theorem ct_Hall_sync_Semaphore_5_2 {A : Nat → Nat} {K : sh_II} {L : sh_DD} {s : Nat} (hs : s < 8) (hk_s : cw_cl (K 12 s) = 5) (c0_73 : ¬ (K 19 s) ≤ (nI 3)) (c1_73 : (K 18 (6 * s + 3)) = -1) : sh_cM A md_Hall_sync [.ref (A 0), .int (nI s), .int 5] K L (.inl (some (.int (-1)))) K L := by
  refine sh_cp (fun w Z k => sh_iload_n dc_Hall_sync_0 rfl rfl k) ?_
  refine sh_cp (fun w Z k => sh_iconst (v := 0) dc_Hall_sync_1 (by decide) k) ?_
  refine sh_cp (fun w Z k => sh_bipush (v := 8) dc_Hall_sync_2 (by decide) k) ?_
  refine sh_ccall (fun w hw => sh_stat (As := [.int 5, .int 0, .int 8]) dc_Hall_sync_4 lm_Hall_checkNumber ln_Hall_39 wd_191 wd_49 rfl rfl (Nat.le_of_ble_eq_true rfl)) (ct_Hall_checkNumber_2 (x := 5) (lo := 0) (hi := 8) (by decide) (by decide)) ⟨(Nat.le_of_ble_eq_true rfl), (Nat.le_of_ble_eq_true rfl), (Nat.le_of_ble_eq_true rfl), (Nat.le_of_ble_eq_true rfl)⟩ ?_
  show sh_cW _ _ (_, _, []) K L _ _ _ _ _
  refine sh_cp (fun w Z k => sh_aload_n dc_Hall_sync_7 rfl rfl k) ?_
  refine sh_cp (fun w Z k => sh_iload_n dc_Hall_sync_8 rfl rfl k) ?_
  refine sh_ccall (fun w hw => sh_virt (As := [.int (nI s)]) dc_Hall_sync_9 lm_Hall_syncAt ln_Hall_73 wd_272 wd_2 rfl rfl (Nat.le_of_ble_eq_true rfl) (hw _ _ cw_o0) rfl) (ct_Hall_syncAt_2 (s := s) (by omega) (cw_nz hk_s (by decide))) ⟨(Nat.le_of_ble_eq_true rfl), (Nat.le_of_ble_eq_true rfl), (Nat.le_of_ble_eq_true rfl), (Nat.le_of_ble_eq_true rfl)⟩ ?_
  show sh_cW _ _ (_, _, [.ref (A (20 + s))]) K L _ _ _ _ _
  refine sh_cp (fun w Z k => sh_astore_n dc_Hall_sync_12 rfl (by decide) k) ?_
  refine sh_cp (fun w Z k => sh_iload_n dc_Hall_sync_13 rfl rfl k) ?_
  refine sh_cp (fun w Z k => sh_lookup (off := 52) (tgt := 66) dc_Hall_sync_14 (by decide) (by decide) (by decide) k) ?_
  refine sh_cp (fun w Z k => sh_aload_n dc_Hall_sync_66 rfl rfl k) ?_
  refine sh_cget (20 + s) 1 dc_Hall_sync_67 (cw_oe (by omega) hk_s) rfl (by decide) fl_Hall_206 rfl rfl rfl rfl ?_
  refine sh_cp (fun w Z k => sh_iload_n dc_Hall_sync_70 rfl rfl k) ?_
  refine sh_cp (fun w Z k => sh_iconst (v := 2) dc_Hall_sync_71 (by decide) k) ?_
  refine sh_cp (fun w Z k => sh_isub dc_Hall_sync_72 k) ?_
  refine sh_cti (show (5 - 2 : Int32) = 3 from by decide) ?_
  refine sh_ccall (fun w hw => sh_virt (As := [.int 3]) dc_Hall_sync_73 lm_Waiters_at ln_Hall_210 wd_690 wd_22 rfl rfl (Nat.le_of_ble_eq_true rfl) (hw _ _ (cw_ot (by omega) (cw_nz hk_s (by decide)))) rfl) (ct_Waiters_at_2 (s := s) (i := 3) (by omega) (cw_nz hk_s (by decide)) (by omega) c0_73 c1_73) ⟨(Nat.le_of_ble_eq_true rfl), (Nat.le_of_ble_eq_true rfl), (Nat.le_of_ble_eq_true rfl), (Nat.le_of_ble_eq_true rfl)⟩ ?_
  show sh_cW _ _ (_, _, [.null]) K L _ _ _ _ _
  refine sh_cp (fun w Z k => sh_astoreN dc_Hall_sync_76 (by decide) k) ?_
  refine sh_cp (fun w Z k => sh_aloadq (x := none) dc_Hall_sync_78 rfl k) ?_
  show sh_cW _ _ (_, _, .null :: _) _ _ _ _ _ _ _
  refine sh_cp (fun w Z k => sh_ifnonnullN dc_Hall_sync_80 k) ?_
  refine sh_cp (fun w Z k => sh_iconst (v := (-1)) dc_Hall_sync_83 (by decide) k) ?_
  refine sh_cp (fun w Z k => sh_goto_ (tgt := 92) dc_Hall_sync_84 (by decide) k) ?_
  exact sh_ce (fun w => sh_ireturn dc_Hall_sync_92 rfl rfl (by decide) (by decide))
theorem ct_Hall_sync_Semaphore_5_3 {A : Nat → Nat} {K : sh_II} {L : sh_DD} {s : Nat} {u18_73 : Nat} (hs : s < 8) (hk_s : cw_cl (K 12 s) = 5) (c0_73 : ¬ (K 19 s) ≤ (nI 3)) (hu18_73 : u18_73 < 6) (c2_73 : (K 18 (6 * s + 3)) = nI u18_73) : sh_cM A md_Hall_sync [.ref (A 0), .int (nI s), .int 5] K L (.inl (some (.int (nI u18_73)))) K L := by
  refine sh_cp (fun w Z k => sh_iload_n dc_Hall_sync_0 rfl rfl k) ?_
  refine sh_cp (fun w Z k => sh_iconst (v := 0) dc_Hall_sync_1 (by decide) k) ?_
  refine sh_cp (fun w Z k => sh_bipush (v := 8) dc_Hall_sync_2 (by decide) k) ?_
  refine sh_ccall (fun w hw => sh_stat (As := [.int 5, .int 0, .int 8]) dc_Hall_sync_4 lm_Hall_checkNumber ln_Hall_39 wd_191 wd_49 rfl rfl (Nat.le_of_ble_eq_true rfl)) (ct_Hall_checkNumber_2 (x := 5) (lo := 0) (hi := 8) (by decide) (by decide)) ⟨(Nat.le_of_ble_eq_true rfl), (Nat.le_of_ble_eq_true rfl), (Nat.le_of_ble_eq_true rfl), (Nat.le_of_ble_eq_true rfl)⟩ ?_
  show sh_cW _ _ (_, _, []) K L _ _ _ _ _
  refine sh_cp (fun w Z k => sh_aload_n dc_Hall_sync_7 rfl rfl k) ?_
  refine sh_cp (fun w Z k => sh_iload_n dc_Hall_sync_8 rfl rfl k) ?_
  refine sh_ccall (fun w hw => sh_virt (As := [.int (nI s)]) dc_Hall_sync_9 lm_Hall_syncAt ln_Hall_73 wd_272 wd_2 rfl rfl (Nat.le_of_ble_eq_true rfl) (hw _ _ cw_o0) rfl) (ct_Hall_syncAt_2 (s := s) (by omega) (cw_nz hk_s (by decide))) ⟨(Nat.le_of_ble_eq_true rfl), (Nat.le_of_ble_eq_true rfl), (Nat.le_of_ble_eq_true rfl), (Nat.le_of_ble_eq_true rfl)⟩ ?_
  show sh_cW _ _ (_, _, [.ref (A (20 + s))]) K L _ _ _ _ _
  refine sh_cp (fun w Z k => sh_astore_n dc_Hall_sync_12 rfl (by decide) k) ?_
  refine sh_cp (fun w Z k => sh_iload_n dc_Hall_sync_13 rfl rfl k) ?_
  refine sh_cp (fun w Z k => sh_lookup (off := 52) (tgt := 66) dc_Hall_sync_14 (by decide) (by decide) (by decide) k) ?_
  refine sh_cp (fun w Z k => sh_aload_n dc_Hall_sync_66 rfl rfl k) ?_
  refine sh_cget (20 + s) 1 dc_Hall_sync_67 (cw_oe (by omega) hk_s) rfl (by decide) fl_Hall_206 rfl rfl rfl rfl ?_
  refine sh_cp (fun w Z k => sh_iload_n dc_Hall_sync_70 rfl rfl k) ?_
  refine sh_cp (fun w Z k => sh_iconst (v := 2) dc_Hall_sync_71 (by decide) k) ?_
  refine sh_cp (fun w Z k => sh_isub dc_Hall_sync_72 k) ?_
  refine sh_cti (show (5 - 2 : Int32) = 3 from by decide) ?_
  refine sh_ccall (fun w hw => sh_virt (As := [.int 3]) dc_Hall_sync_73 lm_Waiters_at ln_Hall_210 wd_690 wd_22 rfl rfl (Nat.le_of_ble_eq_true rfl) (hw _ _ (cw_ot (by omega) (cw_nz hk_s (by decide)))) rfl) (ct_Waiters_at_3 (s := s) (i := 3) (u18_17 := u18_73) (by omega) (cw_nz hk_s (by decide)) (by omega) c0_73 (by omega) c2_73) ⟨(Nat.le_of_ble_eq_true rfl), (Nat.le_of_ble_eq_true rfl), (Nat.le_of_ble_eq_true rfl), (Nat.le_of_ble_eq_true rfl)⟩ ?_
  show sh_cW _ _ (_, _, [.ref (A (10 + u18_73))]) K L _ _ _ _ _
  refine sh_cp (fun w Z k => sh_astore dc_Hall_sync_76 (by decide) k) ?_
  refine sh_cp (fun w Z k => sh_aload dc_Hall_sync_78 rfl k) ?_
  refine sh_cp (fun w Z k => sh_ifnonnull (tgt := 87) dc_Hall_sync_80 (by decide) k) ?_
  refine sh_cp (fun w Z k => sh_aload dc_Hall_sync_87 rfl k) ?_
  refine sh_cget (10 + u18_73) 0 dc_Hall_sync_89 (cw_ow (by omega)) rfl (by decide) fl_Hall_213 rfl rfl rfl rfl ?_
  exact sh_ce (fun w => sh_ireturn dc_Hall_sync_92 rfl rfl (by decide) (by decide))
theorem ct_Hall_sync_Semaphore_6_1 {A : Nat → Nat} {K : sh_II} {L : sh_DD} {s : Nat} (hs : s < 8) (hk_s : cw_cl (K 12 s) = 5) (c0_73 : (K 19 s) ≤ (nI 4)) : sh_cM A md_Hall_sync [.ref (A 0), .int (nI s), .int 6] K L (.inl (some (.int (-1)))) K L := by
  refine sh_cp (fun w Z k => sh_iload_n dc_Hall_sync_0 rfl rfl k) ?_
  refine sh_cp (fun w Z k => sh_iconst (v := 0) dc_Hall_sync_1 (by decide) k) ?_
  refine sh_cp (fun w Z k => sh_bipush (v := 8) dc_Hall_sync_2 (by decide) k) ?_
  refine sh_ccall (fun w hw => sh_stat (As := [.int 6, .int 0, .int 8]) dc_Hall_sync_4 lm_Hall_checkNumber ln_Hall_39 wd_191 wd_49 rfl rfl (Nat.le_of_ble_eq_true rfl)) (ct_Hall_checkNumber_2 (x := 6) (lo := 0) (hi := 8) (by decide) (by decide)) ⟨(Nat.le_of_ble_eq_true rfl), (Nat.le_of_ble_eq_true rfl), (Nat.le_of_ble_eq_true rfl), (Nat.le_of_ble_eq_true rfl)⟩ ?_
  show sh_cW _ _ (_, _, []) K L _ _ _ _ _
  refine sh_cp (fun w Z k => sh_aload_n dc_Hall_sync_7 rfl rfl k) ?_
  refine sh_cp (fun w Z k => sh_iload_n dc_Hall_sync_8 rfl rfl k) ?_
  refine sh_ccall (fun w hw => sh_virt (As := [.int (nI s)]) dc_Hall_sync_9 lm_Hall_syncAt ln_Hall_73 wd_272 wd_2 rfl rfl (Nat.le_of_ble_eq_true rfl) (hw _ _ cw_o0) rfl) (ct_Hall_syncAt_2 (s := s) (by omega) (cw_nz hk_s (by decide))) ⟨(Nat.le_of_ble_eq_true rfl), (Nat.le_of_ble_eq_true rfl), (Nat.le_of_ble_eq_true rfl), (Nat.le_of_ble_eq_true rfl)⟩ ?_
  show sh_cW _ _ (_, _, [.ref (A (20 + s))]) K L _ _ _ _ _
  refine sh_cp (fun w Z k => sh_astore_n dc_Hall_sync_12 rfl (by decide) k) ?_
  refine sh_cp (fun w Z k => sh_iload_n dc_Hall_sync_13 rfl rfl k) ?_
  refine sh_cp (fun w Z k => sh_lookup (off := 52) (tgt := 66) dc_Hall_sync_14 (by decide) (by decide) (by decide) k) ?_
  refine sh_cp (fun w Z k => sh_aload_n dc_Hall_sync_66 rfl rfl k) ?_
  refine sh_cget (20 + s) 1 dc_Hall_sync_67 (cw_oe (by omega) hk_s) rfl (by decide) fl_Hall_206 rfl rfl rfl rfl ?_
  refine sh_cp (fun w Z k => sh_iload_n dc_Hall_sync_70 rfl rfl k) ?_
  refine sh_cp (fun w Z k => sh_iconst (v := 2) dc_Hall_sync_71 (by decide) k) ?_
  refine sh_cp (fun w Z k => sh_isub dc_Hall_sync_72 k) ?_
  refine sh_cti (show (6 - 2 : Int32) = 4 from by decide) ?_
  refine sh_ccall (fun w hw => sh_virt (As := [.int 4]) dc_Hall_sync_73 lm_Waiters_at ln_Hall_210 wd_690 wd_22 rfl rfl (Nat.le_of_ble_eq_true rfl) (hw _ _ (cw_ot (by omega) (cw_nz hk_s (by decide)))) rfl) (ct_Waiters_at_1 (s := s) (i := 4) (by omega) (cw_nz hk_s (by decide)) (by omega) c0_73) ⟨(Nat.le_of_ble_eq_true rfl), (Nat.le_of_ble_eq_true rfl), (Nat.le_of_ble_eq_true rfl), (Nat.le_of_ble_eq_true rfl)⟩ ?_
  show sh_cW _ _ (_, _, [.null]) K L _ _ _ _ _
  refine sh_cp (fun w Z k => sh_astoreN dc_Hall_sync_76 (by decide) k) ?_
  refine sh_cp (fun w Z k => sh_aloadq (x := none) dc_Hall_sync_78 rfl k) ?_
  show sh_cW _ _ (_, _, .null :: _) _ _ _ _ _ _ _
  refine sh_cp (fun w Z k => sh_ifnonnullN dc_Hall_sync_80 k) ?_
  refine sh_cp (fun w Z k => sh_iconst (v := (-1)) dc_Hall_sync_83 (by decide) k) ?_
  refine sh_cp (fun w Z k => sh_goto_ (tgt := 92) dc_Hall_sync_84 (by decide) k) ?_
  exact sh_ce (fun w => sh_ireturn dc_Hall_sync_92 rfl rfl (by decide) (by decide))
theorem ct_Hall_sync_Semaphore_6_2 {A : Nat → Nat} {K : sh_II} {L : sh_DD} {s : Nat} (hs : s < 8) (hk_s : cw_cl (K 12 s) = 5) (c0_73 : ¬ (K 19 s) ≤ (nI 4)) (c1_73 : (K 18 (6 * s + 4)) = -1) : sh_cM A md_Hall_sync [.ref (A 0), .int (nI s), .int 6] K L (.inl (some (.int (-1)))) K L := by
  refine sh_cp (fun w Z k => sh_iload_n dc_Hall_sync_0 rfl rfl k) ?_
  refine sh_cp (fun w Z k => sh_iconst (v := 0) dc_Hall_sync_1 (by decide) k) ?_
  refine sh_cp (fun w Z k => sh_bipush (v := 8) dc_Hall_sync_2 (by decide) k) ?_
  refine sh_ccall (fun w hw => sh_stat (As := [.int 6, .int 0, .int 8]) dc_Hall_sync_4 lm_Hall_checkNumber ln_Hall_39 wd_191 wd_49 rfl rfl (Nat.le_of_ble_eq_true rfl)) (ct_Hall_checkNumber_2 (x := 6) (lo := 0) (hi := 8) (by decide) (by decide)) ⟨(Nat.le_of_ble_eq_true rfl), (Nat.le_of_ble_eq_true rfl), (Nat.le_of_ble_eq_true rfl), (Nat.le_of_ble_eq_true rfl)⟩ ?_
  show sh_cW _ _ (_, _, []) K L _ _ _ _ _
  refine sh_cp (fun w Z k => sh_aload_n dc_Hall_sync_7 rfl rfl k) ?_
  refine sh_cp (fun w Z k => sh_iload_n dc_Hall_sync_8 rfl rfl k) ?_
  refine sh_ccall (fun w hw => sh_virt (As := [.int (nI s)]) dc_Hall_sync_9 lm_Hall_syncAt ln_Hall_73 wd_272 wd_2 rfl rfl (Nat.le_of_ble_eq_true rfl) (hw _ _ cw_o0) rfl) (ct_Hall_syncAt_2 (s := s) (by omega) (cw_nz hk_s (by decide))) ⟨(Nat.le_of_ble_eq_true rfl), (Nat.le_of_ble_eq_true rfl), (Nat.le_of_ble_eq_true rfl), (Nat.le_of_ble_eq_true rfl)⟩ ?_
  show sh_cW _ _ (_, _, [.ref (A (20 + s))]) K L _ _ _ _ _
  refine sh_cp (fun w Z k => sh_astore_n dc_Hall_sync_12 rfl (by decide) k) ?_
  refine sh_cp (fun w Z k => sh_iload_n dc_Hall_sync_13 rfl rfl k) ?_
  refine sh_cp (fun w Z k => sh_lookup (off := 52) (tgt := 66) dc_Hall_sync_14 (by decide) (by decide) (by decide) k) ?_
  refine sh_cp (fun w Z k => sh_aload_n dc_Hall_sync_66 rfl rfl k) ?_
  refine sh_cget (20 + s) 1 dc_Hall_sync_67 (cw_oe (by omega) hk_s) rfl (by decide) fl_Hall_206 rfl rfl rfl rfl ?_
  refine sh_cp (fun w Z k => sh_iload_n dc_Hall_sync_70 rfl rfl k) ?_
  refine sh_cp (fun w Z k => sh_iconst (v := 2) dc_Hall_sync_71 (by decide) k) ?_
  refine sh_cp (fun w Z k => sh_isub dc_Hall_sync_72 k) ?_
  refine sh_cti (show (6 - 2 : Int32) = 4 from by decide) ?_
  refine sh_ccall (fun w hw => sh_virt (As := [.int 4]) dc_Hall_sync_73 lm_Waiters_at ln_Hall_210 wd_690 wd_22 rfl rfl (Nat.le_of_ble_eq_true rfl) (hw _ _ (cw_ot (by omega) (cw_nz hk_s (by decide)))) rfl) (ct_Waiters_at_2 (s := s) (i := 4) (by omega) (cw_nz hk_s (by decide)) (by omega) c0_73 c1_73) ⟨(Nat.le_of_ble_eq_true rfl), (Nat.le_of_ble_eq_true rfl), (Nat.le_of_ble_eq_true rfl), (Nat.le_of_ble_eq_true rfl)⟩ ?_
  show sh_cW _ _ (_, _, [.null]) K L _ _ _ _ _
  refine sh_cp (fun w Z k => sh_astoreN dc_Hall_sync_76 (by decide) k) ?_
  refine sh_cp (fun w Z k => sh_aloadq (x := none) dc_Hall_sync_78 rfl k) ?_
  show sh_cW _ _ (_, _, .null :: _) _ _ _ _ _ _ _
  refine sh_cp (fun w Z k => sh_ifnonnullN dc_Hall_sync_80 k) ?_
  refine sh_cp (fun w Z k => sh_iconst (v := (-1)) dc_Hall_sync_83 (by decide) k) ?_
  refine sh_cp (fun w Z k => sh_goto_ (tgt := 92) dc_Hall_sync_84 (by decide) k) ?_
  exact sh_ce (fun w => sh_ireturn dc_Hall_sync_92 rfl rfl (by decide) (by decide))
theorem ct_Hall_sync_Semaphore_6_3 {A : Nat → Nat} {K : sh_II} {L : sh_DD} {s : Nat} {u18_73 : Nat} (hs : s < 8) (hk_s : cw_cl (K 12 s) = 5) (c0_73 : ¬ (K 19 s) ≤ (nI 4)) (hu18_73 : u18_73 < 6) (c2_73 : (K 18 (6 * s + 4)) = nI u18_73) : sh_cM A md_Hall_sync [.ref (A 0), .int (nI s), .int 6] K L (.inl (some (.int (nI u18_73)))) K L := by
  refine sh_cp (fun w Z k => sh_iload_n dc_Hall_sync_0 rfl rfl k) ?_
  refine sh_cp (fun w Z k => sh_iconst (v := 0) dc_Hall_sync_1 (by decide) k) ?_
  refine sh_cp (fun w Z k => sh_bipush (v := 8) dc_Hall_sync_2 (by decide) k) ?_
  refine sh_ccall (fun w hw => sh_stat (As := [.int 6, .int 0, .int 8]) dc_Hall_sync_4 lm_Hall_checkNumber ln_Hall_39 wd_191 wd_49 rfl rfl (Nat.le_of_ble_eq_true rfl)) (ct_Hall_checkNumber_2 (x := 6) (lo := 0) (hi := 8) (by decide) (by decide)) ⟨(Nat.le_of_ble_eq_true rfl), (Nat.le_of_ble_eq_true rfl), (Nat.le_of_ble_eq_true rfl), (Nat.le_of_ble_eq_true rfl)⟩ ?_
  show sh_cW _ _ (_, _, []) K L _ _ _ _ _
  refine sh_cp (fun w Z k => sh_aload_n dc_Hall_sync_7 rfl rfl k) ?_
  refine sh_cp (fun w Z k => sh_iload_n dc_Hall_sync_8 rfl rfl k) ?_
  refine sh_ccall (fun w hw => sh_virt (As := [.int (nI s)]) dc_Hall_sync_9 lm_Hall_syncAt ln_Hall_73 wd_272 wd_2 rfl rfl (Nat.le_of_ble_eq_true rfl) (hw _ _ cw_o0) rfl) (ct_Hall_syncAt_2 (s := s) (by omega) (cw_nz hk_s (by decide))) ⟨(Nat.le_of_ble_eq_true rfl), (Nat.le_of_ble_eq_true rfl), (Nat.le_of_ble_eq_true rfl), (Nat.le_of_ble_eq_true rfl)⟩ ?_
  show sh_cW _ _ (_, _, [.ref (A (20 + s))]) K L _ _ _ _ _
  refine sh_cp (fun w Z k => sh_astore_n dc_Hall_sync_12 rfl (by decide) k) ?_
  refine sh_cp (fun w Z k => sh_iload_n dc_Hall_sync_13 rfl rfl k) ?_
  refine sh_cp (fun w Z k => sh_lookup (off := 52) (tgt := 66) dc_Hall_sync_14 (by decide) (by decide) (by decide) k) ?_
  refine sh_cp (fun w Z k => sh_aload_n dc_Hall_sync_66 rfl rfl k) ?_
  refine sh_cget (20 + s) 1 dc_Hall_sync_67 (cw_oe (by omega) hk_s) rfl (by decide) fl_Hall_206 rfl rfl rfl rfl ?_
  refine sh_cp (fun w Z k => sh_iload_n dc_Hall_sync_70 rfl rfl k) ?_
  refine sh_cp (fun w Z k => sh_iconst (v := 2) dc_Hall_sync_71 (by decide) k) ?_
  refine sh_cp (fun w Z k => sh_isub dc_Hall_sync_72 k) ?_
  refine sh_cti (show (6 - 2 : Int32) = 4 from by decide) ?_
  refine sh_ccall (fun w hw => sh_virt (As := [.int 4]) dc_Hall_sync_73 lm_Waiters_at ln_Hall_210 wd_690 wd_22 rfl rfl (Nat.le_of_ble_eq_true rfl) (hw _ _ (cw_ot (by omega) (cw_nz hk_s (by decide)))) rfl) (ct_Waiters_at_3 (s := s) (i := 4) (u18_17 := u18_73) (by omega) (cw_nz hk_s (by decide)) (by omega) c0_73 (by omega) c2_73) ⟨(Nat.le_of_ble_eq_true rfl), (Nat.le_of_ble_eq_true rfl), (Nat.le_of_ble_eq_true rfl), (Nat.le_of_ble_eq_true rfl)⟩ ?_
  show sh_cW _ _ (_, _, [.ref (A (10 + u18_73))]) K L _ _ _ _ _
  refine sh_cp (fun w Z k => sh_astore dc_Hall_sync_76 (by decide) k) ?_
  refine sh_cp (fun w Z k => sh_aload dc_Hall_sync_78 rfl k) ?_
  refine sh_cp (fun w Z k => sh_ifnonnull (tgt := 87) dc_Hall_sync_80 (by decide) k) ?_
  refine sh_cp (fun w Z k => sh_aload dc_Hall_sync_87 rfl k) ?_
  refine sh_cget (10 + u18_73) 0 dc_Hall_sync_89 (cw_ow (by omega)) rfl (by decide) fl_Hall_213 rfl rfl rfl rfl ?_
  exact sh_ce (fun w => sh_ireturn dc_Hall_sync_92 rfl rfl (by decide) (by decide))
theorem ct_Hall_sync_Semaphore_7_1 {A : Nat → Nat} {K : sh_II} {L : sh_DD} {s : Nat} (hs : s < 8) (hk_s : cw_cl (K 12 s) = 5) (c0_73 : (K 19 s) ≤ (nI 5)) : sh_cM A md_Hall_sync [.ref (A 0), .int (nI s), .int 7] K L (.inl (some (.int (-1)))) K L := by
  refine sh_cp (fun w Z k => sh_iload_n dc_Hall_sync_0 rfl rfl k) ?_
  refine sh_cp (fun w Z k => sh_iconst (v := 0) dc_Hall_sync_1 (by decide) k) ?_
  refine sh_cp (fun w Z k => sh_bipush (v := 8) dc_Hall_sync_2 (by decide) k) ?_
  refine sh_ccall (fun w hw => sh_stat (As := [.int 7, .int 0, .int 8]) dc_Hall_sync_4 lm_Hall_checkNumber ln_Hall_39 wd_191 wd_49 rfl rfl (Nat.le_of_ble_eq_true rfl)) (ct_Hall_checkNumber_2 (x := 7) (lo := 0) (hi := 8) (by decide) (by decide)) ⟨(Nat.le_of_ble_eq_true rfl), (Nat.le_of_ble_eq_true rfl), (Nat.le_of_ble_eq_true rfl), (Nat.le_of_ble_eq_true rfl)⟩ ?_
  show sh_cW _ _ (_, _, []) K L _ _ _ _ _
  refine sh_cp (fun w Z k => sh_aload_n dc_Hall_sync_7 rfl rfl k) ?_
  refine sh_cp (fun w Z k => sh_iload_n dc_Hall_sync_8 rfl rfl k) ?_
  refine sh_ccall (fun w hw => sh_virt (As := [.int (nI s)]) dc_Hall_sync_9 lm_Hall_syncAt ln_Hall_73 wd_272 wd_2 rfl rfl (Nat.le_of_ble_eq_true rfl) (hw _ _ cw_o0) rfl) (ct_Hall_syncAt_2 (s := s) (by omega) (cw_nz hk_s (by decide))) ⟨(Nat.le_of_ble_eq_true rfl), (Nat.le_of_ble_eq_true rfl), (Nat.le_of_ble_eq_true rfl), (Nat.le_of_ble_eq_true rfl)⟩ ?_
  show sh_cW _ _ (_, _, [.ref (A (20 + s))]) K L _ _ _ _ _
  refine sh_cp (fun w Z k => sh_astore_n dc_Hall_sync_12 rfl (by decide) k) ?_
  refine sh_cp (fun w Z k => sh_iload_n dc_Hall_sync_13 rfl rfl k) ?_
  refine sh_cp (fun w Z k => sh_lookup (off := 52) (tgt := 66) dc_Hall_sync_14 (by decide) (by decide) (by decide) k) ?_
  refine sh_cp (fun w Z k => sh_aload_n dc_Hall_sync_66 rfl rfl k) ?_
  refine sh_cget (20 + s) 1 dc_Hall_sync_67 (cw_oe (by omega) hk_s) rfl (by decide) fl_Hall_206 rfl rfl rfl rfl ?_
  refine sh_cp (fun w Z k => sh_iload_n dc_Hall_sync_70 rfl rfl k) ?_
  refine sh_cp (fun w Z k => sh_iconst (v := 2) dc_Hall_sync_71 (by decide) k) ?_
  refine sh_cp (fun w Z k => sh_isub dc_Hall_sync_72 k) ?_
  refine sh_cti (show (7 - 2 : Int32) = 5 from by decide) ?_
  refine sh_ccall (fun w hw => sh_virt (As := [.int 5]) dc_Hall_sync_73 lm_Waiters_at ln_Hall_210 wd_690 wd_22 rfl rfl (Nat.le_of_ble_eq_true rfl) (hw _ _ (cw_ot (by omega) (cw_nz hk_s (by decide)))) rfl) (ct_Waiters_at_1 (s := s) (i := 5) (by omega) (cw_nz hk_s (by decide)) (by omega) c0_73) ⟨(Nat.le_of_ble_eq_true rfl), (Nat.le_of_ble_eq_true rfl), (Nat.le_of_ble_eq_true rfl), (Nat.le_of_ble_eq_true rfl)⟩ ?_
  show sh_cW _ _ (_, _, [.null]) K L _ _ _ _ _
  refine sh_cp (fun w Z k => sh_astoreN dc_Hall_sync_76 (by decide) k) ?_
  refine sh_cp (fun w Z k => sh_aloadq (x := none) dc_Hall_sync_78 rfl k) ?_
  show sh_cW _ _ (_, _, .null :: _) _ _ _ _ _ _ _
  refine sh_cp (fun w Z k => sh_ifnonnullN dc_Hall_sync_80 k) ?_
  refine sh_cp (fun w Z k => sh_iconst (v := (-1)) dc_Hall_sync_83 (by decide) k) ?_
  refine sh_cp (fun w Z k => sh_goto_ (tgt := 92) dc_Hall_sync_84 (by decide) k) ?_
  exact sh_ce (fun w => sh_ireturn dc_Hall_sync_92 rfl rfl (by decide) (by decide))
theorem ct_Hall_sync_Semaphore_7_2 {A : Nat → Nat} {K : sh_II} {L : sh_DD} {s : Nat} (hs : s < 8) (hk_s : cw_cl (K 12 s) = 5) (c0_73 : ¬ (K 19 s) ≤ (nI 5)) (c1_73 : (K 18 (6 * s + 5)) = -1) : sh_cM A md_Hall_sync [.ref (A 0), .int (nI s), .int 7] K L (.inl (some (.int (-1)))) K L := by
  refine sh_cp (fun w Z k => sh_iload_n dc_Hall_sync_0 rfl rfl k) ?_
  refine sh_cp (fun w Z k => sh_iconst (v := 0) dc_Hall_sync_1 (by decide) k) ?_
  refine sh_cp (fun w Z k => sh_bipush (v := 8) dc_Hall_sync_2 (by decide) k) ?_
  refine sh_ccall (fun w hw => sh_stat (As := [.int 7, .int 0, .int 8]) dc_Hall_sync_4 lm_Hall_checkNumber ln_Hall_39 wd_191 wd_49 rfl rfl (Nat.le_of_ble_eq_true rfl)) (ct_Hall_checkNumber_2 (x := 7) (lo := 0) (hi := 8) (by decide) (by decide)) ⟨(Nat.le_of_ble_eq_true rfl), (Nat.le_of_ble_eq_true rfl), (Nat.le_of_ble_eq_true rfl), (Nat.le_of_ble_eq_true rfl)⟩ ?_
  show sh_cW _ _ (_, _, []) K L _ _ _ _ _
  refine sh_cp (fun w Z k => sh_aload_n dc_Hall_sync_7 rfl rfl k) ?_
  refine sh_cp (fun w Z k => sh_iload_n dc_Hall_sync_8 rfl rfl k) ?_
  refine sh_ccall (fun w hw => sh_virt (As := [.int (nI s)]) dc_Hall_sync_9 lm_Hall_syncAt ln_Hall_73 wd_272 wd_2 rfl rfl (Nat.le_of_ble_eq_true rfl) (hw _ _ cw_o0) rfl) (ct_Hall_syncAt_2 (s := s) (by omega) (cw_nz hk_s (by decide))) ⟨(Nat.le_of_ble_eq_true rfl), (Nat.le_of_ble_eq_true rfl), (Nat.le_of_ble_eq_true rfl), (Nat.le_of_ble_eq_true rfl)⟩ ?_
  show sh_cW _ _ (_, _, [.ref (A (20 + s))]) K L _ _ _ _ _
  refine sh_cp (fun w Z k => sh_astore_n dc_Hall_sync_12 rfl (by decide) k) ?_
  refine sh_cp (fun w Z k => sh_iload_n dc_Hall_sync_13 rfl rfl k) ?_
  refine sh_cp (fun w Z k => sh_lookup (off := 52) (tgt := 66) dc_Hall_sync_14 (by decide) (by decide) (by decide) k) ?_
  refine sh_cp (fun w Z k => sh_aload_n dc_Hall_sync_66 rfl rfl k) ?_
  refine sh_cget (20 + s) 1 dc_Hall_sync_67 (cw_oe (by omega) hk_s) rfl (by decide) fl_Hall_206 rfl rfl rfl rfl ?_
  refine sh_cp (fun w Z k => sh_iload_n dc_Hall_sync_70 rfl rfl k) ?_
  refine sh_cp (fun w Z k => sh_iconst (v := 2) dc_Hall_sync_71 (by decide) k) ?_
  refine sh_cp (fun w Z k => sh_isub dc_Hall_sync_72 k) ?_
  refine sh_cti (show (7 - 2 : Int32) = 5 from by decide) ?_
  refine sh_ccall (fun w hw => sh_virt (As := [.int 5]) dc_Hall_sync_73 lm_Waiters_at ln_Hall_210 wd_690 wd_22 rfl rfl (Nat.le_of_ble_eq_true rfl) (hw _ _ (cw_ot (by omega) (cw_nz hk_s (by decide)))) rfl) (ct_Waiters_at_2 (s := s) (i := 5) (by omega) (cw_nz hk_s (by decide)) (by omega) c0_73 c1_73) ⟨(Nat.le_of_ble_eq_true rfl), (Nat.le_of_ble_eq_true rfl), (Nat.le_of_ble_eq_true rfl), (Nat.le_of_ble_eq_true rfl)⟩ ?_
  show sh_cW _ _ (_, _, [.null]) K L _ _ _ _ _
  refine sh_cp (fun w Z k => sh_astoreN dc_Hall_sync_76 (by decide) k) ?_
  refine sh_cp (fun w Z k => sh_aloadq (x := none) dc_Hall_sync_78 rfl k) ?_
  show sh_cW _ _ (_, _, .null :: _) _ _ _ _ _ _ _
  refine sh_cp (fun w Z k => sh_ifnonnullN dc_Hall_sync_80 k) ?_
  refine sh_cp (fun w Z k => sh_iconst (v := (-1)) dc_Hall_sync_83 (by decide) k) ?_
  refine sh_cp (fun w Z k => sh_goto_ (tgt := 92) dc_Hall_sync_84 (by decide) k) ?_
  exact sh_ce (fun w => sh_ireturn dc_Hall_sync_92 rfl rfl (by decide) (by decide))
theorem ct_Hall_sync_Semaphore_7_3 {A : Nat → Nat} {K : sh_II} {L : sh_DD} {s : Nat} {u18_73 : Nat} (hs : s < 8) (hk_s : cw_cl (K 12 s) = 5) (c0_73 : ¬ (K 19 s) ≤ (nI 5)) (hu18_73 : u18_73 < 6) (c2_73 : (K 18 (6 * s + 5)) = nI u18_73) : sh_cM A md_Hall_sync [.ref (A 0), .int (nI s), .int 7] K L (.inl (some (.int (nI u18_73)))) K L := by
  refine sh_cp (fun w Z k => sh_iload_n dc_Hall_sync_0 rfl rfl k) ?_
  refine sh_cp (fun w Z k => sh_iconst (v := 0) dc_Hall_sync_1 (by decide) k) ?_
  refine sh_cp (fun w Z k => sh_bipush (v := 8) dc_Hall_sync_2 (by decide) k) ?_
  refine sh_ccall (fun w hw => sh_stat (As := [.int 7, .int 0, .int 8]) dc_Hall_sync_4 lm_Hall_checkNumber ln_Hall_39 wd_191 wd_49 rfl rfl (Nat.le_of_ble_eq_true rfl)) (ct_Hall_checkNumber_2 (x := 7) (lo := 0) (hi := 8) (by decide) (by decide)) ⟨(Nat.le_of_ble_eq_true rfl), (Nat.le_of_ble_eq_true rfl), (Nat.le_of_ble_eq_true rfl), (Nat.le_of_ble_eq_true rfl)⟩ ?_
  show sh_cW _ _ (_, _, []) K L _ _ _ _ _
  refine sh_cp (fun w Z k => sh_aload_n dc_Hall_sync_7 rfl rfl k) ?_
  refine sh_cp (fun w Z k => sh_iload_n dc_Hall_sync_8 rfl rfl k) ?_
  refine sh_ccall (fun w hw => sh_virt (As := [.int (nI s)]) dc_Hall_sync_9 lm_Hall_syncAt ln_Hall_73 wd_272 wd_2 rfl rfl (Nat.le_of_ble_eq_true rfl) (hw _ _ cw_o0) rfl) (ct_Hall_syncAt_2 (s := s) (by omega) (cw_nz hk_s (by decide))) ⟨(Nat.le_of_ble_eq_true rfl), (Nat.le_of_ble_eq_true rfl), (Nat.le_of_ble_eq_true rfl), (Nat.le_of_ble_eq_true rfl)⟩ ?_
  show sh_cW _ _ (_, _, [.ref (A (20 + s))]) K L _ _ _ _ _
  refine sh_cp (fun w Z k => sh_astore_n dc_Hall_sync_12 rfl (by decide) k) ?_
  refine sh_cp (fun w Z k => sh_iload_n dc_Hall_sync_13 rfl rfl k) ?_
  refine sh_cp (fun w Z k => sh_lookup (off := 52) (tgt := 66) dc_Hall_sync_14 (by decide) (by decide) (by decide) k) ?_
  refine sh_cp (fun w Z k => sh_aload_n dc_Hall_sync_66 rfl rfl k) ?_
  refine sh_cget (20 + s) 1 dc_Hall_sync_67 (cw_oe (by omega) hk_s) rfl (by decide) fl_Hall_206 rfl rfl rfl rfl ?_
  refine sh_cp (fun w Z k => sh_iload_n dc_Hall_sync_70 rfl rfl k) ?_
  refine sh_cp (fun w Z k => sh_iconst (v := 2) dc_Hall_sync_71 (by decide) k) ?_
  refine sh_cp (fun w Z k => sh_isub dc_Hall_sync_72 k) ?_
  refine sh_cti (show (7 - 2 : Int32) = 5 from by decide) ?_
  refine sh_ccall (fun w hw => sh_virt (As := [.int 5]) dc_Hall_sync_73 lm_Waiters_at ln_Hall_210 wd_690 wd_22 rfl rfl (Nat.le_of_ble_eq_true rfl) (hw _ _ (cw_ot (by omega) (cw_nz hk_s (by decide)))) rfl) (ct_Waiters_at_3 (s := s) (i := 5) (u18_17 := u18_73) (by omega) (cw_nz hk_s (by decide)) (by omega) c0_73 (by omega) c2_73) ⟨(Nat.le_of_ble_eq_true rfl), (Nat.le_of_ble_eq_true rfl), (Nat.le_of_ble_eq_true rfl), (Nat.le_of_ble_eq_true rfl)⟩ ?_
  show sh_cW _ _ (_, _, [.ref (A (10 + u18_73))]) K L _ _ _ _ _
  refine sh_cp (fun w Z k => sh_astore dc_Hall_sync_76 (by decide) k) ?_
  refine sh_cp (fun w Z k => sh_aload dc_Hall_sync_78 rfl k) ?_
  refine sh_cp (fun w Z k => sh_ifnonnull (tgt := 87) dc_Hall_sync_80 (by decide) k) ?_
  refine sh_cp (fun w Z k => sh_aload dc_Hall_sync_87 rfl k) ?_
  refine sh_cget (10 + u18_73) 0 dc_Hall_sync_89 (cw_ow (by omega)) rfl (by decide) fl_Hall_213 rfl rfl rfl rfl ?_
  exact sh_ce (fun w => sh_ireturn dc_Hall_sync_92 rfl rfl (by decide) (by decide))
theorem ct_Hall_sync_Semaphore_8_1 {A : Nat → Nat} {K : sh_II} {L : sh_DD} {s : Nat} (hs : s < 8) (hk_s : cw_cl (K 12 s) = 5) : sh_cM A md_Hall_sync [.ref (A 0), .int (nI s), .int 8] K L (.inl (some (.int (K 15 s)))) K L := by
  refine sh_cp (fun w Z k => sh_iload_n dc_Hall_sync_0 rfl rfl k) ?_
  refine sh_cp (fun w Z k => sh_iconst (v := 0) dc_Hall_sync_1 (by decide) k) ?_
  refine sh_cp (fun w Z k => sh_bipush (v := 8) dc_Hall_sync_2 (by decide) k) ?_
  refine sh_ccall (fun w hw => sh_stat (As := [.int 8, .int 0, .int 8]) dc_Hall_sync_4 lm_Hall_checkNumber ln_Hall_39 wd_191 wd_49 rfl rfl (Nat.le_of_ble_eq_true rfl)) (ct_Hall_checkNumber_2 (x := 8) (lo := 0) (hi := 8) (by decide) (by decide)) ⟨(Nat.le_of_ble_eq_true rfl), (Nat.le_of_ble_eq_true rfl), (Nat.le_of_ble_eq_true rfl), (Nat.le_of_ble_eq_true rfl)⟩ ?_
  show sh_cW _ _ (_, _, []) K L _ _ _ _ _
  refine sh_cp (fun w Z k => sh_aload_n dc_Hall_sync_7 rfl rfl k) ?_
  refine sh_cp (fun w Z k => sh_iload_n dc_Hall_sync_8 rfl rfl k) ?_
  refine sh_ccall (fun w hw => sh_virt (As := [.int (nI s)]) dc_Hall_sync_9 lm_Hall_syncAt ln_Hall_73 wd_272 wd_2 rfl rfl (Nat.le_of_ble_eq_true rfl) (hw _ _ cw_o0) rfl) (ct_Hall_syncAt_2 (s := s) (by omega) (cw_nz hk_s (by decide))) ⟨(Nat.le_of_ble_eq_true rfl), (Nat.le_of_ble_eq_true rfl), (Nat.le_of_ble_eq_true rfl), (Nat.le_of_ble_eq_true rfl)⟩ ?_
  show sh_cW _ _ (_, _, [.ref (A (20 + s))]) K L _ _ _ _ _
  refine sh_cp (fun w Z k => sh_astore_n dc_Hall_sync_12 rfl (by decide) k) ?_
  refine sh_cp (fun w Z k => sh_iload_n dc_Hall_sync_13 rfl rfl k) ?_
  refine sh_cp (fun w Z k => sh_lookup (off := 47) (tgt := 61) dc_Hall_sync_14 (by decide) (by decide) (by decide) k) ?_
  refine sh_cp (fun w Z k => sh_aload_n dc_Hall_sync_61 rfl rfl k) ?_
  refine sh_ccall (fun w hw => sh_virtU (As := []) dc_Hall_sync_62 lm_Semaphore_amount wd_819 wd_821 (Or.inr ⟨_, _, _, wd_820, wd_831⟩) ⟨by decide, by decide⟩ (by decide +kernel) wd_828 wd_827 rfl rfl (Nat.le_of_ble_eq_true rfl) (hw _ _ (cw_oe (by omega) hk_s)) rfl) (ct_Semaphore_amount_1 (s := s) (by omega) hk_s) ⟨(Nat.le_of_ble_eq_true rfl), (Nat.le_of_ble_eq_true rfl), (Nat.le_of_ble_eq_true rfl), (Nat.le_of_ble_eq_true rfl)⟩ ?_
  show sh_cW _ _ (_, _, [.int (K 15 s)]) K L _ _ _ _ _
  exact sh_ce (fun w => sh_ireturn dc_Hall_sync_65 rfl rfl (by decide) (by decide))
theorem ct_Hall_sync_Latch_0_1 {A : Nat → Nat} {K : sh_II} {L : sh_DD} {s : Nat} (hs : s < 8) (hk_s : cw_cl (K 12 s) = 6) : sh_cM A md_Hall_sync [.ref (A 0), .int (nI s), .int 0] K L (.inl (some (.int (K 12 s)))) K L := by
  refine sh_cp (fun w Z k => sh_iload_n dc_Hall_sync_0 rfl rfl k) ?_
  refine sh_cp (fun w Z k => sh_iconst (v := 0) dc_Hall_sync_1 (by decide) k) ?_
  refine sh_cp (fun w Z k => sh_bipush (v := 8) dc_Hall_sync_2 (by decide) k) ?_
  refine sh_ccall (fun w hw => sh_stat (As := [.int 0, .int 0, .int 8]) dc_Hall_sync_4 lm_Hall_checkNumber ln_Hall_39 wd_191 wd_49 rfl rfl (Nat.le_of_ble_eq_true rfl)) (ct_Hall_checkNumber_2 (x := 0) (lo := 0) (hi := 8) (by decide) (by decide)) ⟨(Nat.le_of_ble_eq_true rfl), (Nat.le_of_ble_eq_true rfl), (Nat.le_of_ble_eq_true rfl), (Nat.le_of_ble_eq_true rfl)⟩ ?_
  show sh_cW _ _ (_, _, []) K L _ _ _ _ _
  refine sh_cp (fun w Z k => sh_aload_n dc_Hall_sync_7 rfl rfl k) ?_
  refine sh_cp (fun w Z k => sh_iload_n dc_Hall_sync_8 rfl rfl k) ?_
  refine sh_ccall (fun w hw => sh_virt (As := [.int (nI s)]) dc_Hall_sync_9 lm_Hall_syncAt ln_Hall_73 wd_272 wd_2 rfl rfl (Nat.le_of_ble_eq_true rfl) (hw _ _ cw_o0) rfl) (ct_Hall_syncAt_2 (s := s) (by omega) (cw_nz hk_s (by decide))) ⟨(Nat.le_of_ble_eq_true rfl), (Nat.le_of_ble_eq_true rfl), (Nat.le_of_ble_eq_true rfl), (Nat.le_of_ble_eq_true rfl)⟩ ?_
  show sh_cW _ _ (_, _, [.ref (A (20 + s))]) K L _ _ _ _ _
  refine sh_cp (fun w Z k => sh_astore_n dc_Hall_sync_12 rfl (by decide) k) ?_
  refine sh_cp (fun w Z k => sh_iload_n dc_Hall_sync_13 rfl rfl k) ?_
  refine sh_cp (fun w Z k => sh_lookup (off := 34) (tgt := 48) dc_Hall_sync_14 (by decide) (by decide) (by decide) k) ?_
  refine sh_cp (fun w Z k => sh_aload_n dc_Hall_sync_48 rfl rfl k) ?_
  refine sh_cget (20 + s) 0 dc_Hall_sync_49 (cw_oa (by omega) hk_s) rfl (by decide) fl_Hall_203 rfl rfl rfl rfl ?_
  exact sh_ce (fun w => sh_ireturn dc_Hall_sync_52 rfl rfl (by decide) (by decide))
theorem ct_Hall_sync_Latch_1_1 {A : Nat → Nat} {K : sh_II} {L : sh_DD} {s : Nat} (hs : s < 8) (hk_s : cw_cl (K 12 s) = 6) : sh_cM A md_Hall_sync [.ref (A 0), .int (nI s), .int 1] K L (.inl (some (.int (K 19 s)))) K L := by
  refine sh_cp (fun w Z k => sh_iload_n dc_Hall_sync_0 rfl rfl k) ?_
  refine sh_cp (fun w Z k => sh_iconst (v := 0) dc_Hall_sync_1 (by decide) k) ?_
  refine sh_cp (fun w Z k => sh_bipush (v := 8) dc_Hall_sync_2 (by decide) k) ?_
  refine sh_ccall (fun w hw => sh_stat (As := [.int 1, .int 0, .int 8]) dc_Hall_sync_4 lm_Hall_checkNumber ln_Hall_39 wd_191 wd_49 rfl rfl (Nat.le_of_ble_eq_true rfl)) (ct_Hall_checkNumber_2 (x := 1) (lo := 0) (hi := 8) (by decide) (by decide)) ⟨(Nat.le_of_ble_eq_true rfl), (Nat.le_of_ble_eq_true rfl), (Nat.le_of_ble_eq_true rfl), (Nat.le_of_ble_eq_true rfl)⟩ ?_
  show sh_cW _ _ (_, _, []) K L _ _ _ _ _
  refine sh_cp (fun w Z k => sh_aload_n dc_Hall_sync_7 rfl rfl k) ?_
  refine sh_cp (fun w Z k => sh_iload_n dc_Hall_sync_8 rfl rfl k) ?_
  refine sh_ccall (fun w hw => sh_virt (As := [.int (nI s)]) dc_Hall_sync_9 lm_Hall_syncAt ln_Hall_73 wd_272 wd_2 rfl rfl (Nat.le_of_ble_eq_true rfl) (hw _ _ cw_o0) rfl) (ct_Hall_syncAt_2 (s := s) (by omega) (cw_nz hk_s (by decide))) ⟨(Nat.le_of_ble_eq_true rfl), (Nat.le_of_ble_eq_true rfl), (Nat.le_of_ble_eq_true rfl), (Nat.le_of_ble_eq_true rfl)⟩ ?_
  show sh_cW _ _ (_, _, [.ref (A (20 + s))]) K L _ _ _ _ _
  refine sh_cp (fun w Z k => sh_astore_n dc_Hall_sync_12 rfl (by decide) k) ?_
  refine sh_cp (fun w Z k => sh_iload_n dc_Hall_sync_13 rfl rfl k) ?_
  refine sh_cp (fun w Z k => sh_lookup (off := 39) (tgt := 53) dc_Hall_sync_14 (by decide) (by decide) (by decide) k) ?_
  refine sh_cp (fun w Z k => sh_aload_n dc_Hall_sync_53 rfl rfl k) ?_
  refine sh_cget (20 + s) 1 dc_Hall_sync_54 (cw_oa (by omega) hk_s) rfl (by decide) fl_Hall_206 rfl rfl rfl rfl ?_
  refine sh_ccall (fun w hw => sh_virt (As := []) dc_Hall_sync_57 lm_Waiters_size ln_Hall_134 wd_552 wd_12 rfl rfl (Nat.le_of_ble_eq_true rfl) (hw _ _ (cw_ot (by omega) (cw_nz hk_s (by decide)))) rfl) (ct_Waiters_size_1 (s := s) (by omega) (cw_nz hk_s (by decide))) ⟨(Nat.le_of_ble_eq_true rfl), (Nat.le_of_ble_eq_true rfl), (Nat.le_of_ble_eq_true rfl), (Nat.le_of_ble_eq_true rfl)⟩ ?_
  show sh_cW _ _ (_, _, [.int (K 19 s)]) K L _ _ _ _ _
  exact sh_ce (fun w => sh_ireturn dc_Hall_sync_60 rfl rfl (by decide) (by decide))
theorem ct_Hall_sync_Latch_2_1 {A : Nat → Nat} {K : sh_II} {L : sh_DD} {s : Nat} (hs : s < 8) (hk_s : cw_cl (K 12 s) = 6) (c0_73 : (K 19 s) ≤ 0) : sh_cM A md_Hall_sync [.ref (A 0), .int (nI s), .int 2] K L (.inl (some (.int (-1)))) K L := by
  refine sh_cp (fun w Z k => sh_iload_n dc_Hall_sync_0 rfl rfl k) ?_
  refine sh_cp (fun w Z k => sh_iconst (v := 0) dc_Hall_sync_1 (by decide) k) ?_
  refine sh_cp (fun w Z k => sh_bipush (v := 8) dc_Hall_sync_2 (by decide) k) ?_
  refine sh_ccall (fun w hw => sh_stat (As := [.int 2, .int 0, .int 8]) dc_Hall_sync_4 lm_Hall_checkNumber ln_Hall_39 wd_191 wd_49 rfl rfl (Nat.le_of_ble_eq_true rfl)) (ct_Hall_checkNumber_2 (x := 2) (lo := 0) (hi := 8) (by decide) (by decide)) ⟨(Nat.le_of_ble_eq_true rfl), (Nat.le_of_ble_eq_true rfl), (Nat.le_of_ble_eq_true rfl), (Nat.le_of_ble_eq_true rfl)⟩ ?_
  show sh_cW _ _ (_, _, []) K L _ _ _ _ _
  refine sh_cp (fun w Z k => sh_aload_n dc_Hall_sync_7 rfl rfl k) ?_
  refine sh_cp (fun w Z k => sh_iload_n dc_Hall_sync_8 rfl rfl k) ?_
  refine sh_ccall (fun w hw => sh_virt (As := [.int (nI s)]) dc_Hall_sync_9 lm_Hall_syncAt ln_Hall_73 wd_272 wd_2 rfl rfl (Nat.le_of_ble_eq_true rfl) (hw _ _ cw_o0) rfl) (ct_Hall_syncAt_2 (s := s) (by omega) (cw_nz hk_s (by decide))) ⟨(Nat.le_of_ble_eq_true rfl), (Nat.le_of_ble_eq_true rfl), (Nat.le_of_ble_eq_true rfl), (Nat.le_of_ble_eq_true rfl)⟩ ?_
  show sh_cW _ _ (_, _, [.ref (A (20 + s))]) K L _ _ _ _ _
  refine sh_cp (fun w Z k => sh_astore_n dc_Hall_sync_12 rfl (by decide) k) ?_
  refine sh_cp (fun w Z k => sh_iload_n dc_Hall_sync_13 rfl rfl k) ?_
  refine sh_cp (fun w Z k => sh_lookup (off := 52) (tgt := 66) dc_Hall_sync_14 (by decide) (by decide) (by decide) k) ?_
  refine sh_cp (fun w Z k => sh_aload_n dc_Hall_sync_66 rfl rfl k) ?_
  refine sh_cget (20 + s) 1 dc_Hall_sync_67 (cw_oa (by omega) hk_s) rfl (by decide) fl_Hall_206 rfl rfl rfl rfl ?_
  refine sh_cp (fun w Z k => sh_iload_n dc_Hall_sync_70 rfl rfl k) ?_
  refine sh_cp (fun w Z k => sh_iconst (v := 2) dc_Hall_sync_71 (by decide) k) ?_
  refine sh_cp (fun w Z k => sh_isub dc_Hall_sync_72 k) ?_
  refine sh_cti (show (2 - 2 : Int32) = 0 from by decide) ?_
  refine sh_ccall (fun w hw => sh_virt (As := [.int 0]) dc_Hall_sync_73 lm_Waiters_at ln_Hall_210 wd_690 wd_22 rfl rfl (Nat.le_of_ble_eq_true rfl) (hw _ _ (cw_ot (by omega) (cw_nz hk_s (by decide)))) rfl) (ct_Waiters_at_0_1 (s := s) (by omega) (cw_nz hk_s (by decide)) c0_73) ⟨(Nat.le_of_ble_eq_true rfl), (Nat.le_of_ble_eq_true rfl), (Nat.le_of_ble_eq_true rfl), (Nat.le_of_ble_eq_true rfl)⟩ ?_
  show sh_cW _ _ (_, _, [.null]) K L _ _ _ _ _
  refine sh_cp (fun w Z k => sh_astoreN dc_Hall_sync_76 (by decide) k) ?_
  refine sh_cp (fun w Z k => sh_aloadq (x := none) dc_Hall_sync_78 rfl k) ?_
  show sh_cW _ _ (_, _, .null :: _) _ _ _ _ _ _ _
  refine sh_cp (fun w Z k => sh_ifnonnullN dc_Hall_sync_80 k) ?_
  refine sh_cp (fun w Z k => sh_iconst (v := (-1)) dc_Hall_sync_83 (by decide) k) ?_
  refine sh_cp (fun w Z k => sh_goto_ (tgt := 92) dc_Hall_sync_84 (by decide) k) ?_
  exact sh_ce (fun w => sh_ireturn dc_Hall_sync_92 rfl rfl (by decide) (by decide))
theorem ct_Hall_sync_Latch_2_2 {A : Nat → Nat} {K : sh_II} {L : sh_DD} {s : Nat} (hs : s < 8) (hk_s : cw_cl (K 12 s) = 6) (c0_73 : ¬ (K 19 s) ≤ 0) (c1_73 : (K 18 (6 * s + 0)) = -1) : sh_cM A md_Hall_sync [.ref (A 0), .int (nI s), .int 2] K L (.inl (some (.int (-1)))) K L := by
  refine sh_cp (fun w Z k => sh_iload_n dc_Hall_sync_0 rfl rfl k) ?_
  refine sh_cp (fun w Z k => sh_iconst (v := 0) dc_Hall_sync_1 (by decide) k) ?_
  refine sh_cp (fun w Z k => sh_bipush (v := 8) dc_Hall_sync_2 (by decide) k) ?_
  refine sh_ccall (fun w hw => sh_stat (As := [.int 2, .int 0, .int 8]) dc_Hall_sync_4 lm_Hall_checkNumber ln_Hall_39 wd_191 wd_49 rfl rfl (Nat.le_of_ble_eq_true rfl)) (ct_Hall_checkNumber_2 (x := 2) (lo := 0) (hi := 8) (by decide) (by decide)) ⟨(Nat.le_of_ble_eq_true rfl), (Nat.le_of_ble_eq_true rfl), (Nat.le_of_ble_eq_true rfl), (Nat.le_of_ble_eq_true rfl)⟩ ?_
  show sh_cW _ _ (_, _, []) K L _ _ _ _ _
  refine sh_cp (fun w Z k => sh_aload_n dc_Hall_sync_7 rfl rfl k) ?_
  refine sh_cp (fun w Z k => sh_iload_n dc_Hall_sync_8 rfl rfl k) ?_
  refine sh_ccall (fun w hw => sh_virt (As := [.int (nI s)]) dc_Hall_sync_9 lm_Hall_syncAt ln_Hall_73 wd_272 wd_2 rfl rfl (Nat.le_of_ble_eq_true rfl) (hw _ _ cw_o0) rfl) (ct_Hall_syncAt_2 (s := s) (by omega) (cw_nz hk_s (by decide))) ⟨(Nat.le_of_ble_eq_true rfl), (Nat.le_of_ble_eq_true rfl), (Nat.le_of_ble_eq_true rfl), (Nat.le_of_ble_eq_true rfl)⟩ ?_
  show sh_cW _ _ (_, _, [.ref (A (20 + s))]) K L _ _ _ _ _
  refine sh_cp (fun w Z k => sh_astore_n dc_Hall_sync_12 rfl (by decide) k) ?_
  refine sh_cp (fun w Z k => sh_iload_n dc_Hall_sync_13 rfl rfl k) ?_
  refine sh_cp (fun w Z k => sh_lookup (off := 52) (tgt := 66) dc_Hall_sync_14 (by decide) (by decide) (by decide) k) ?_
  refine sh_cp (fun w Z k => sh_aload_n dc_Hall_sync_66 rfl rfl k) ?_
  refine sh_cget (20 + s) 1 dc_Hall_sync_67 (cw_oa (by omega) hk_s) rfl (by decide) fl_Hall_206 rfl rfl rfl rfl ?_
  refine sh_cp (fun w Z k => sh_iload_n dc_Hall_sync_70 rfl rfl k) ?_
  refine sh_cp (fun w Z k => sh_iconst (v := 2) dc_Hall_sync_71 (by decide) k) ?_
  refine sh_cp (fun w Z k => sh_isub dc_Hall_sync_72 k) ?_
  refine sh_cti (show (2 - 2 : Int32) = 0 from by decide) ?_
  refine sh_ccall (fun w hw => sh_virt (As := [.int 0]) dc_Hall_sync_73 lm_Waiters_at ln_Hall_210 wd_690 wd_22 rfl rfl (Nat.le_of_ble_eq_true rfl) (hw _ _ (cw_ot (by omega) (cw_nz hk_s (by decide)))) rfl) (ct_Waiters_at_0_2 (s := s) (by omega) (cw_nz hk_s (by decide)) c0_73 c1_73) ⟨(Nat.le_of_ble_eq_true rfl), (Nat.le_of_ble_eq_true rfl), (Nat.le_of_ble_eq_true rfl), (Nat.le_of_ble_eq_true rfl)⟩ ?_
  show sh_cW _ _ (_, _, [.null]) K L _ _ _ _ _
  refine sh_cp (fun w Z k => sh_astoreN dc_Hall_sync_76 (by decide) k) ?_
  refine sh_cp (fun w Z k => sh_aloadq (x := none) dc_Hall_sync_78 rfl k) ?_
  show sh_cW _ _ (_, _, .null :: _) _ _ _ _ _ _ _
  refine sh_cp (fun w Z k => sh_ifnonnullN dc_Hall_sync_80 k) ?_
  refine sh_cp (fun w Z k => sh_iconst (v := (-1)) dc_Hall_sync_83 (by decide) k) ?_
  refine sh_cp (fun w Z k => sh_goto_ (tgt := 92) dc_Hall_sync_84 (by decide) k) ?_
  exact sh_ce (fun w => sh_ireturn dc_Hall_sync_92 rfl rfl (by decide) (by decide))
theorem ct_Hall_sync_Latch_2_3 {A : Nat → Nat} {K : sh_II} {L : sh_DD} {s : Nat} {u18_73 : Nat} (hs : s < 8) (hk_s : cw_cl (K 12 s) = 6) (c0_73 : ¬ (K 19 s) ≤ 0) (hu18_73 : u18_73 < 6) (c2_73 : (K 18 (6 * s + 0)) = nI u18_73) : sh_cM A md_Hall_sync [.ref (A 0), .int (nI s), .int 2] K L (.inl (some (.int (nI u18_73)))) K L := by
  refine sh_cp (fun w Z k => sh_iload_n dc_Hall_sync_0 rfl rfl k) ?_
  refine sh_cp (fun w Z k => sh_iconst (v := 0) dc_Hall_sync_1 (by decide) k) ?_
  refine sh_cp (fun w Z k => sh_bipush (v := 8) dc_Hall_sync_2 (by decide) k) ?_
  refine sh_ccall (fun w hw => sh_stat (As := [.int 2, .int 0, .int 8]) dc_Hall_sync_4 lm_Hall_checkNumber ln_Hall_39 wd_191 wd_49 rfl rfl (Nat.le_of_ble_eq_true rfl)) (ct_Hall_checkNumber_2 (x := 2) (lo := 0) (hi := 8) (by decide) (by decide)) ⟨(Nat.le_of_ble_eq_true rfl), (Nat.le_of_ble_eq_true rfl), (Nat.le_of_ble_eq_true rfl), (Nat.le_of_ble_eq_true rfl)⟩ ?_
  show sh_cW _ _ (_, _, []) K L _ _ _ _ _
  refine sh_cp (fun w Z k => sh_aload_n dc_Hall_sync_7 rfl rfl k) ?_
  refine sh_cp (fun w Z k => sh_iload_n dc_Hall_sync_8 rfl rfl k) ?_
  refine sh_ccall (fun w hw => sh_virt (As := [.int (nI s)]) dc_Hall_sync_9 lm_Hall_syncAt ln_Hall_73 wd_272 wd_2 rfl rfl (Nat.le_of_ble_eq_true rfl) (hw _ _ cw_o0) rfl) (ct_Hall_syncAt_2 (s := s) (by omega) (cw_nz hk_s (by decide))) ⟨(Nat.le_of_ble_eq_true rfl), (Nat.le_of_ble_eq_true rfl), (Nat.le_of_ble_eq_true rfl), (Nat.le_of_ble_eq_true rfl)⟩ ?_
  show sh_cW _ _ (_, _, [.ref (A (20 + s))]) K L _ _ _ _ _
  refine sh_cp (fun w Z k => sh_astore_n dc_Hall_sync_12 rfl (by decide) k) ?_
  refine sh_cp (fun w Z k => sh_iload_n dc_Hall_sync_13 rfl rfl k) ?_
  refine sh_cp (fun w Z k => sh_lookup (off := 52) (tgt := 66) dc_Hall_sync_14 (by decide) (by decide) (by decide) k) ?_
  refine sh_cp (fun w Z k => sh_aload_n dc_Hall_sync_66 rfl rfl k) ?_
  refine sh_cget (20 + s) 1 dc_Hall_sync_67 (cw_oa (by omega) hk_s) rfl (by decide) fl_Hall_206 rfl rfl rfl rfl ?_
  refine sh_cp (fun w Z k => sh_iload_n dc_Hall_sync_70 rfl rfl k) ?_
  refine sh_cp (fun w Z k => sh_iconst (v := 2) dc_Hall_sync_71 (by decide) k) ?_
  refine sh_cp (fun w Z k => sh_isub dc_Hall_sync_72 k) ?_
  refine sh_cti (show (2 - 2 : Int32) = 0 from by decide) ?_
  refine sh_ccall (fun w hw => sh_virt (As := [.int 0]) dc_Hall_sync_73 lm_Waiters_at ln_Hall_210 wd_690 wd_22 rfl rfl (Nat.le_of_ble_eq_true rfl) (hw _ _ (cw_ot (by omega) (cw_nz hk_s (by decide)))) rfl) (ct_Waiters_at_0_3 (s := s) (u18_17 := u18_73) (by omega) (cw_nz hk_s (by decide)) c0_73 (by omega) c2_73) ⟨(Nat.le_of_ble_eq_true rfl), (Nat.le_of_ble_eq_true rfl), (Nat.le_of_ble_eq_true rfl), (Nat.le_of_ble_eq_true rfl)⟩ ?_
  show sh_cW _ _ (_, _, [.ref (A (10 + u18_73))]) K L _ _ _ _ _
  refine sh_cp (fun w Z k => sh_astore dc_Hall_sync_76 (by decide) k) ?_
  refine sh_cp (fun w Z k => sh_aload dc_Hall_sync_78 rfl k) ?_
  refine sh_cp (fun w Z k => sh_ifnonnull (tgt := 87) dc_Hall_sync_80 (by decide) k) ?_
  refine sh_cp (fun w Z k => sh_aload dc_Hall_sync_87 rfl k) ?_
  refine sh_cget (10 + u18_73) 0 dc_Hall_sync_89 (cw_ow (by omega)) rfl (by decide) fl_Hall_213 rfl rfl rfl rfl ?_
  exact sh_ce (fun w => sh_ireturn dc_Hall_sync_92 rfl rfl (by decide) (by decide))
theorem ct_Hall_sync_Latch_3_1 {A : Nat → Nat} {K : sh_II} {L : sh_DD} {s : Nat} (hs : s < 8) (hk_s : cw_cl (K 12 s) = 6) (c0_73 : (K 19 s) ≤ (nI 1)) : sh_cM A md_Hall_sync [.ref (A 0), .int (nI s), .int 3] K L (.inl (some (.int (-1)))) K L := by
  refine sh_cp (fun w Z k => sh_iload_n dc_Hall_sync_0 rfl rfl k) ?_
  refine sh_cp (fun w Z k => sh_iconst (v := 0) dc_Hall_sync_1 (by decide) k) ?_
  refine sh_cp (fun w Z k => sh_bipush (v := 8) dc_Hall_sync_2 (by decide) k) ?_
  refine sh_ccall (fun w hw => sh_stat (As := [.int 3, .int 0, .int 8]) dc_Hall_sync_4 lm_Hall_checkNumber ln_Hall_39 wd_191 wd_49 rfl rfl (Nat.le_of_ble_eq_true rfl)) (ct_Hall_checkNumber_2 (x := 3) (lo := 0) (hi := 8) (by decide) (by decide)) ⟨(Nat.le_of_ble_eq_true rfl), (Nat.le_of_ble_eq_true rfl), (Nat.le_of_ble_eq_true rfl), (Nat.le_of_ble_eq_true rfl)⟩ ?_
  show sh_cW _ _ (_, _, []) K L _ _ _ _ _
  refine sh_cp (fun w Z k => sh_aload_n dc_Hall_sync_7 rfl rfl k) ?_
  refine sh_cp (fun w Z k => sh_iload_n dc_Hall_sync_8 rfl rfl k) ?_
  refine sh_ccall (fun w hw => sh_virt (As := [.int (nI s)]) dc_Hall_sync_9 lm_Hall_syncAt ln_Hall_73 wd_272 wd_2 rfl rfl (Nat.le_of_ble_eq_true rfl) (hw _ _ cw_o0) rfl) (ct_Hall_syncAt_2 (s := s) (by omega) (cw_nz hk_s (by decide))) ⟨(Nat.le_of_ble_eq_true rfl), (Nat.le_of_ble_eq_true rfl), (Nat.le_of_ble_eq_true rfl), (Nat.le_of_ble_eq_true rfl)⟩ ?_
  show sh_cW _ _ (_, _, [.ref (A (20 + s))]) K L _ _ _ _ _
  refine sh_cp (fun w Z k => sh_astore_n dc_Hall_sync_12 rfl (by decide) k) ?_
  refine sh_cp (fun w Z k => sh_iload_n dc_Hall_sync_13 rfl rfl k) ?_
  refine sh_cp (fun w Z k => sh_lookup (off := 52) (tgt := 66) dc_Hall_sync_14 (by decide) (by decide) (by decide) k) ?_
  refine sh_cp (fun w Z k => sh_aload_n dc_Hall_sync_66 rfl rfl k) ?_
  refine sh_cget (20 + s) 1 dc_Hall_sync_67 (cw_oa (by omega) hk_s) rfl (by decide) fl_Hall_206 rfl rfl rfl rfl ?_
  refine sh_cp (fun w Z k => sh_iload_n dc_Hall_sync_70 rfl rfl k) ?_
  refine sh_cp (fun w Z k => sh_iconst (v := 2) dc_Hall_sync_71 (by decide) k) ?_
  refine sh_cp (fun w Z k => sh_isub dc_Hall_sync_72 k) ?_
  refine sh_cti (show (3 - 2 : Int32) = 1 from by decide) ?_
  refine sh_ccall (fun w hw => sh_virt (As := [.int 1]) dc_Hall_sync_73 lm_Waiters_at ln_Hall_210 wd_690 wd_22 rfl rfl (Nat.le_of_ble_eq_true rfl) (hw _ _ (cw_ot (by omega) (cw_nz hk_s (by decide)))) rfl) (ct_Waiters_at_1 (s := s) (i := 1) (by omega) (cw_nz hk_s (by decide)) (by omega) c0_73) ⟨(Nat.le_of_ble_eq_true rfl), (Nat.le_of_ble_eq_true rfl), (Nat.le_of_ble_eq_true rfl), (Nat.le_of_ble_eq_true rfl)⟩ ?_
  show sh_cW _ _ (_, _, [.null]) K L _ _ _ _ _
  refine sh_cp (fun w Z k => sh_astoreN dc_Hall_sync_76 (by decide) k) ?_
  refine sh_cp (fun w Z k => sh_aloadq (x := none) dc_Hall_sync_78 rfl k) ?_
  show sh_cW _ _ (_, _, .null :: _) _ _ _ _ _ _ _
  refine sh_cp (fun w Z k => sh_ifnonnullN dc_Hall_sync_80 k) ?_
  refine sh_cp (fun w Z k => sh_iconst (v := (-1)) dc_Hall_sync_83 (by decide) k) ?_
  refine sh_cp (fun w Z k => sh_goto_ (tgt := 92) dc_Hall_sync_84 (by decide) k) ?_
  exact sh_ce (fun w => sh_ireturn dc_Hall_sync_92 rfl rfl (by decide) (by decide))
theorem ct_Hall_sync_Latch_3_2 {A : Nat → Nat} {K : sh_II} {L : sh_DD} {s : Nat} (hs : s < 8) (hk_s : cw_cl (K 12 s) = 6) (c0_73 : ¬ (K 19 s) ≤ (nI 1)) (c1_73 : (K 18 (6 * s + 1)) = -1) : sh_cM A md_Hall_sync [.ref (A 0), .int (nI s), .int 3] K L (.inl (some (.int (-1)))) K L := by
  refine sh_cp (fun w Z k => sh_iload_n dc_Hall_sync_0 rfl rfl k) ?_
  refine sh_cp (fun w Z k => sh_iconst (v := 0) dc_Hall_sync_1 (by decide) k) ?_
  refine sh_cp (fun w Z k => sh_bipush (v := 8) dc_Hall_sync_2 (by decide) k) ?_
  refine sh_ccall (fun w hw => sh_stat (As := [.int 3, .int 0, .int 8]) dc_Hall_sync_4 lm_Hall_checkNumber ln_Hall_39 wd_191 wd_49 rfl rfl (Nat.le_of_ble_eq_true rfl)) (ct_Hall_checkNumber_2 (x := 3) (lo := 0) (hi := 8) (by decide) (by decide)) ⟨(Nat.le_of_ble_eq_true rfl), (Nat.le_of_ble_eq_true rfl), (Nat.le_of_ble_eq_true rfl), (Nat.le_of_ble_eq_true rfl)⟩ ?_
  show sh_cW _ _ (_, _, []) K L _ _ _ _ _
  refine sh_cp (fun w Z k => sh_aload_n dc_Hall_sync_7 rfl rfl k) ?_
  refine sh_cp (fun w Z k => sh_iload_n dc_Hall_sync_8 rfl rfl k) ?_
  refine sh_ccall (fun w hw => sh_virt (As := [.int (nI s)]) dc_Hall_sync_9 lm_Hall_syncAt ln_Hall_73 wd_272 wd_2 rfl rfl (Nat.le_of_ble_eq_true rfl) (hw _ _ cw_o0) rfl) (ct_Hall_syncAt_2 (s := s) (by omega) (cw_nz hk_s (by decide))) ⟨(Nat.le_of_ble_eq_true rfl), (Nat.le_of_ble_eq_true rfl), (Nat.le_of_ble_eq_true rfl), (Nat.le_of_ble_eq_true rfl)⟩ ?_
  show sh_cW _ _ (_, _, [.ref (A (20 + s))]) K L _ _ _ _ _
  refine sh_cp (fun w Z k => sh_astore_n dc_Hall_sync_12 rfl (by decide) k) ?_
  refine sh_cp (fun w Z k => sh_iload_n dc_Hall_sync_13 rfl rfl k) ?_
  refine sh_cp (fun w Z k => sh_lookup (off := 52) (tgt := 66) dc_Hall_sync_14 (by decide) (by decide) (by decide) k) ?_
  refine sh_cp (fun w Z k => sh_aload_n dc_Hall_sync_66 rfl rfl k) ?_
  refine sh_cget (20 + s) 1 dc_Hall_sync_67 (cw_oa (by omega) hk_s) rfl (by decide) fl_Hall_206 rfl rfl rfl rfl ?_
  refine sh_cp (fun w Z k => sh_iload_n dc_Hall_sync_70 rfl rfl k) ?_
  refine sh_cp (fun w Z k => sh_iconst (v := 2) dc_Hall_sync_71 (by decide) k) ?_
  refine sh_cp (fun w Z k => sh_isub dc_Hall_sync_72 k) ?_
  refine sh_cti (show (3 - 2 : Int32) = 1 from by decide) ?_
  refine sh_ccall (fun w hw => sh_virt (As := [.int 1]) dc_Hall_sync_73 lm_Waiters_at ln_Hall_210 wd_690 wd_22 rfl rfl (Nat.le_of_ble_eq_true rfl) (hw _ _ (cw_ot (by omega) (cw_nz hk_s (by decide)))) rfl) (ct_Waiters_at_2 (s := s) (i := 1) (by omega) (cw_nz hk_s (by decide)) (by omega) c0_73 c1_73) ⟨(Nat.le_of_ble_eq_true rfl), (Nat.le_of_ble_eq_true rfl), (Nat.le_of_ble_eq_true rfl), (Nat.le_of_ble_eq_true rfl)⟩ ?_
  show sh_cW _ _ (_, _, [.null]) K L _ _ _ _ _
  refine sh_cp (fun w Z k => sh_astoreN dc_Hall_sync_76 (by decide) k) ?_
  refine sh_cp (fun w Z k => sh_aloadq (x := none) dc_Hall_sync_78 rfl k) ?_
  show sh_cW _ _ (_, _, .null :: _) _ _ _ _ _ _ _
  refine sh_cp (fun w Z k => sh_ifnonnullN dc_Hall_sync_80 k) ?_
  refine sh_cp (fun w Z k => sh_iconst (v := (-1)) dc_Hall_sync_83 (by decide) k) ?_
  refine sh_cp (fun w Z k => sh_goto_ (tgt := 92) dc_Hall_sync_84 (by decide) k) ?_
  exact sh_ce (fun w => sh_ireturn dc_Hall_sync_92 rfl rfl (by decide) (by decide))
theorem ct_Hall_sync_Latch_3_3 {A : Nat → Nat} {K : sh_II} {L : sh_DD} {s : Nat} {u18_73 : Nat} (hs : s < 8) (hk_s : cw_cl (K 12 s) = 6) (c0_73 : ¬ (K 19 s) ≤ (nI 1)) (hu18_73 : u18_73 < 6) (c2_73 : (K 18 (6 * s + 1)) = nI u18_73) : sh_cM A md_Hall_sync [.ref (A 0), .int (nI s), .int 3] K L (.inl (some (.int (nI u18_73)))) K L := by
  refine sh_cp (fun w Z k => sh_iload_n dc_Hall_sync_0 rfl rfl k) ?_
  refine sh_cp (fun w Z k => sh_iconst (v := 0) dc_Hall_sync_1 (by decide) k) ?_
  refine sh_cp (fun w Z k => sh_bipush (v := 8) dc_Hall_sync_2 (by decide) k) ?_
  refine sh_ccall (fun w hw => sh_stat (As := [.int 3, .int 0, .int 8]) dc_Hall_sync_4 lm_Hall_checkNumber ln_Hall_39 wd_191 wd_49 rfl rfl (Nat.le_of_ble_eq_true rfl)) (ct_Hall_checkNumber_2 (x := 3) (lo := 0) (hi := 8) (by decide) (by decide)) ⟨(Nat.le_of_ble_eq_true rfl), (Nat.le_of_ble_eq_true rfl), (Nat.le_of_ble_eq_true rfl), (Nat.le_of_ble_eq_true rfl)⟩ ?_
  show sh_cW _ _ (_, _, []) K L _ _ _ _ _
  refine sh_cp (fun w Z k => sh_aload_n dc_Hall_sync_7 rfl rfl k) ?_
  refine sh_cp (fun w Z k => sh_iload_n dc_Hall_sync_8 rfl rfl k) ?_
  refine sh_ccall (fun w hw => sh_virt (As := [.int (nI s)]) dc_Hall_sync_9 lm_Hall_syncAt ln_Hall_73 wd_272 wd_2 rfl rfl (Nat.le_of_ble_eq_true rfl) (hw _ _ cw_o0) rfl) (ct_Hall_syncAt_2 (s := s) (by omega) (cw_nz hk_s (by decide))) ⟨(Nat.le_of_ble_eq_true rfl), (Nat.le_of_ble_eq_true rfl), (Nat.le_of_ble_eq_true rfl), (Nat.le_of_ble_eq_true rfl)⟩ ?_
  show sh_cW _ _ (_, _, [.ref (A (20 + s))]) K L _ _ _ _ _
  refine sh_cp (fun w Z k => sh_astore_n dc_Hall_sync_12 rfl (by decide) k) ?_
  refine sh_cp (fun w Z k => sh_iload_n dc_Hall_sync_13 rfl rfl k) ?_
  refine sh_cp (fun w Z k => sh_lookup (off := 52) (tgt := 66) dc_Hall_sync_14 (by decide) (by decide) (by decide) k) ?_
  refine sh_cp (fun w Z k => sh_aload_n dc_Hall_sync_66 rfl rfl k) ?_
  refine sh_cget (20 + s) 1 dc_Hall_sync_67 (cw_oa (by omega) hk_s) rfl (by decide) fl_Hall_206 rfl rfl rfl rfl ?_
  refine sh_cp (fun w Z k => sh_iload_n dc_Hall_sync_70 rfl rfl k) ?_
  refine sh_cp (fun w Z k => sh_iconst (v := 2) dc_Hall_sync_71 (by decide) k) ?_
  refine sh_cp (fun w Z k => sh_isub dc_Hall_sync_72 k) ?_
  refine sh_cti (show (3 - 2 : Int32) = 1 from by decide) ?_
  refine sh_ccall (fun w hw => sh_virt (As := [.int 1]) dc_Hall_sync_73 lm_Waiters_at ln_Hall_210 wd_690 wd_22 rfl rfl (Nat.le_of_ble_eq_true rfl) (hw _ _ (cw_ot (by omega) (cw_nz hk_s (by decide)))) rfl) (ct_Waiters_at_3 (s := s) (i := 1) (u18_17 := u18_73) (by omega) (cw_nz hk_s (by decide)) (by omega) c0_73 (by omega) c2_73) ⟨(Nat.le_of_ble_eq_true rfl), (Nat.le_of_ble_eq_true rfl), (Nat.le_of_ble_eq_true rfl), (Nat.le_of_ble_eq_true rfl)⟩ ?_
  show sh_cW _ _ (_, _, [.ref (A (10 + u18_73))]) K L _ _ _ _ _
  refine sh_cp (fun w Z k => sh_astore dc_Hall_sync_76 (by decide) k) ?_
  refine sh_cp (fun w Z k => sh_aload dc_Hall_sync_78 rfl k) ?_
  refine sh_cp (fun w Z k => sh_ifnonnull (tgt := 87) dc_Hall_sync_80 (by decide) k) ?_
  refine sh_cp (fun w Z k => sh_aload dc_Hall_sync_87 rfl k) ?_
  refine sh_cget (10 + u18_73) 0 dc_Hall_sync_89 (cw_ow (by omega)) rfl (by decide) fl_Hall_213 rfl rfl rfl rfl ?_
  exact sh_ce (fun w => sh_ireturn dc_Hall_sync_92 rfl rfl (by decide) (by decide))
theorem ct_Hall_sync_Latch_4_1 {A : Nat → Nat} {K : sh_II} {L : sh_DD} {s : Nat} (hs : s < 8) (hk_s : cw_cl (K 12 s) = 6) (c0_73 : (K 19 s) ≤ (nI 2)) : sh_cM A md_Hall_sync [.ref (A 0), .int (nI s), .int 4] K L (.inl (some (.int (-1)))) K L := by
  refine sh_cp (fun w Z k => sh_iload_n dc_Hall_sync_0 rfl rfl k) ?_
  refine sh_cp (fun w Z k => sh_iconst (v := 0) dc_Hall_sync_1 (by decide) k) ?_
  refine sh_cp (fun w Z k => sh_bipush (v := 8) dc_Hall_sync_2 (by decide) k) ?_
  refine sh_ccall (fun w hw => sh_stat (As := [.int 4, .int 0, .int 8]) dc_Hall_sync_4 lm_Hall_checkNumber ln_Hall_39 wd_191 wd_49 rfl rfl (Nat.le_of_ble_eq_true rfl)) (ct_Hall_checkNumber_2 (x := 4) (lo := 0) (hi := 8) (by decide) (by decide)) ⟨(Nat.le_of_ble_eq_true rfl), (Nat.le_of_ble_eq_true rfl), (Nat.le_of_ble_eq_true rfl), (Nat.le_of_ble_eq_true rfl)⟩ ?_
  show sh_cW _ _ (_, _, []) K L _ _ _ _ _
  refine sh_cp (fun w Z k => sh_aload_n dc_Hall_sync_7 rfl rfl k) ?_
  refine sh_cp (fun w Z k => sh_iload_n dc_Hall_sync_8 rfl rfl k) ?_
  refine sh_ccall (fun w hw => sh_virt (As := [.int (nI s)]) dc_Hall_sync_9 lm_Hall_syncAt ln_Hall_73 wd_272 wd_2 rfl rfl (Nat.le_of_ble_eq_true rfl) (hw _ _ cw_o0) rfl) (ct_Hall_syncAt_2 (s := s) (by omega) (cw_nz hk_s (by decide))) ⟨(Nat.le_of_ble_eq_true rfl), (Nat.le_of_ble_eq_true rfl), (Nat.le_of_ble_eq_true rfl), (Nat.le_of_ble_eq_true rfl)⟩ ?_
  show sh_cW _ _ (_, _, [.ref (A (20 + s))]) K L _ _ _ _ _
  refine sh_cp (fun w Z k => sh_astore_n dc_Hall_sync_12 rfl (by decide) k) ?_
  refine sh_cp (fun w Z k => sh_iload_n dc_Hall_sync_13 rfl rfl k) ?_
  refine sh_cp (fun w Z k => sh_lookup (off := 52) (tgt := 66) dc_Hall_sync_14 (by decide) (by decide) (by decide) k) ?_
  refine sh_cp (fun w Z k => sh_aload_n dc_Hall_sync_66 rfl rfl k) ?_
  refine sh_cget (20 + s) 1 dc_Hall_sync_67 (cw_oa (by omega) hk_s) rfl (by decide) fl_Hall_206 rfl rfl rfl rfl ?_
  refine sh_cp (fun w Z k => sh_iload_n dc_Hall_sync_70 rfl rfl k) ?_
  refine sh_cp (fun w Z k => sh_iconst (v := 2) dc_Hall_sync_71 (by decide) k) ?_
  refine sh_cp (fun w Z k => sh_isub dc_Hall_sync_72 k) ?_
  refine sh_cti (show (4 - 2 : Int32) = 2 from by decide) ?_
  refine sh_ccall (fun w hw => sh_virt (As := [.int 2]) dc_Hall_sync_73 lm_Waiters_at ln_Hall_210 wd_690 wd_22 rfl rfl (Nat.le_of_ble_eq_true rfl) (hw _ _ (cw_ot (by omega) (cw_nz hk_s (by decide)))) rfl) (ct_Waiters_at_1 (s := s) (i := 2) (by omega) (cw_nz hk_s (by decide)) (by omega) c0_73) ⟨(Nat.le_of_ble_eq_true rfl), (Nat.le_of_ble_eq_true rfl), (Nat.le_of_ble_eq_true rfl), (Nat.le_of_ble_eq_true rfl)⟩ ?_
  show sh_cW _ _ (_, _, [.null]) K L _ _ _ _ _
  refine sh_cp (fun w Z k => sh_astoreN dc_Hall_sync_76 (by decide) k) ?_
  refine sh_cp (fun w Z k => sh_aloadq (x := none) dc_Hall_sync_78 rfl k) ?_
  show sh_cW _ _ (_, _, .null :: _) _ _ _ _ _ _ _
  refine sh_cp (fun w Z k => sh_ifnonnullN dc_Hall_sync_80 k) ?_
  refine sh_cp (fun w Z k => sh_iconst (v := (-1)) dc_Hall_sync_83 (by decide) k) ?_
  refine sh_cp (fun w Z k => sh_goto_ (tgt := 92) dc_Hall_sync_84 (by decide) k) ?_
  exact sh_ce (fun w => sh_ireturn dc_Hall_sync_92 rfl rfl (by decide) (by decide))
theorem ct_Hall_sync_Latch_4_2 {A : Nat → Nat} {K : sh_II} {L : sh_DD} {s : Nat} (hs : s < 8) (hk_s : cw_cl (K 12 s) = 6) (c0_73 : ¬ (K 19 s) ≤ (nI 2)) (c1_73 : (K 18 (6 * s + 2)) = -1) : sh_cM A md_Hall_sync [.ref (A 0), .int (nI s), .int 4] K L (.inl (some (.int (-1)))) K L := by
  refine sh_cp (fun w Z k => sh_iload_n dc_Hall_sync_0 rfl rfl k) ?_
  refine sh_cp (fun w Z k => sh_iconst (v := 0) dc_Hall_sync_1 (by decide) k) ?_
  refine sh_cp (fun w Z k => sh_bipush (v := 8) dc_Hall_sync_2 (by decide) k) ?_
  refine sh_ccall (fun w hw => sh_stat (As := [.int 4, .int 0, .int 8]) dc_Hall_sync_4 lm_Hall_checkNumber ln_Hall_39 wd_191 wd_49 rfl rfl (Nat.le_of_ble_eq_true rfl)) (ct_Hall_checkNumber_2 (x := 4) (lo := 0) (hi := 8) (by decide) (by decide)) ⟨(Nat.le_of_ble_eq_true rfl), (Nat.le_of_ble_eq_true rfl), (Nat.le_of_ble_eq_true rfl), (Nat.le_of_ble_eq_true rfl)⟩ ?_
  show sh_cW _ _ (_, _, []) K L _ _ _ _ _
  refine sh_cp (fun w Z k => sh_aload_n dc_Hall_sync_7 rfl rfl k) ?_
  refine sh_cp (fun w Z k => sh_iload_n dc_Hall_sync_8 rfl rfl k) ?_
  refine sh_ccall (fun w hw => sh_virt (As := [.int (nI s)]) dc_Hall_sync_9 lm_Hall_syncAt ln_Hall_73 wd_272 wd_2 rfl rfl (Nat.le_of_ble_eq_true rfl) (hw _ _ cw_o0) rfl) (ct_Hall_syncAt_2 (s := s) (by omega) (cw_nz hk_s (by decide))) ⟨(Nat.le_of_ble_eq_true rfl), (Nat.le_of_ble_eq_true rfl), (Nat.le_of_ble_eq_true rfl), (Nat.le_of_ble_eq_true rfl)⟩ ?_
  show sh_cW _ _ (_, _, [.ref (A (20 + s))]) K L _ _ _ _ _
  refine sh_cp (fun w Z k => sh_astore_n dc_Hall_sync_12 rfl (by decide) k) ?_
  refine sh_cp (fun w Z k => sh_iload_n dc_Hall_sync_13 rfl rfl k) ?_
  refine sh_cp (fun w Z k => sh_lookup (off := 52) (tgt := 66) dc_Hall_sync_14 (by decide) (by decide) (by decide) k) ?_
  refine sh_cp (fun w Z k => sh_aload_n dc_Hall_sync_66 rfl rfl k) ?_
  refine sh_cget (20 + s) 1 dc_Hall_sync_67 (cw_oa (by omega) hk_s) rfl (by decide) fl_Hall_206 rfl rfl rfl rfl ?_
  refine sh_cp (fun w Z k => sh_iload_n dc_Hall_sync_70 rfl rfl k) ?_
  refine sh_cp (fun w Z k => sh_iconst (v := 2) dc_Hall_sync_71 (by decide) k) ?_
  refine sh_cp (fun w Z k => sh_isub dc_Hall_sync_72 k) ?_
  refine sh_cti (show (4 - 2 : Int32) = 2 from by decide) ?_
  refine sh_ccall (fun w hw => sh_virt (As := [.int 2]) dc_Hall_sync_73 lm_Waiters_at ln_Hall_210 wd_690 wd_22 rfl rfl (Nat.le_of_ble_eq_true rfl) (hw _ _ (cw_ot (by omega) (cw_nz hk_s (by decide)))) rfl) (ct_Waiters_at_2 (s := s) (i := 2) (by omega) (cw_nz hk_s (by decide)) (by omega) c0_73 c1_73) ⟨(Nat.le_of_ble_eq_true rfl), (Nat.le_of_ble_eq_true rfl), (Nat.le_of_ble_eq_true rfl), (Nat.le_of_ble_eq_true rfl)⟩ ?_
  show sh_cW _ _ (_, _, [.null]) K L _ _ _ _ _
  refine sh_cp (fun w Z k => sh_astoreN dc_Hall_sync_76 (by decide) k) ?_
  refine sh_cp (fun w Z k => sh_aloadq (x := none) dc_Hall_sync_78 rfl k) ?_
  show sh_cW _ _ (_, _, .null :: _) _ _ _ _ _ _ _
  refine sh_cp (fun w Z k => sh_ifnonnullN dc_Hall_sync_80 k) ?_
  refine sh_cp (fun w Z k => sh_iconst (v := (-1)) dc_Hall_sync_83 (by decide) k) ?_
  refine sh_cp (fun w Z k => sh_goto_ (tgt := 92) dc_Hall_sync_84 (by decide) k) ?_
  exact sh_ce (fun w => sh_ireturn dc_Hall_sync_92 rfl rfl (by decide) (by decide))
theorem ct_Hall_sync_Latch_4_3 {A : Nat → Nat} {K : sh_II} {L : sh_DD} {s : Nat} {u18_73 : Nat} (hs : s < 8) (hk_s : cw_cl (K 12 s) = 6) (c0_73 : ¬ (K 19 s) ≤ (nI 2)) (hu18_73 : u18_73 < 6) (c2_73 : (K 18 (6 * s + 2)) = nI u18_73) : sh_cM A md_Hall_sync [.ref (A 0), .int (nI s), .int 4] K L (.inl (some (.int (nI u18_73)))) K L := by
  refine sh_cp (fun w Z k => sh_iload_n dc_Hall_sync_0 rfl rfl k) ?_
  refine sh_cp (fun w Z k => sh_iconst (v := 0) dc_Hall_sync_1 (by decide) k) ?_
  refine sh_cp (fun w Z k => sh_bipush (v := 8) dc_Hall_sync_2 (by decide) k) ?_
  refine sh_ccall (fun w hw => sh_stat (As := [.int 4, .int 0, .int 8]) dc_Hall_sync_4 lm_Hall_checkNumber ln_Hall_39 wd_191 wd_49 rfl rfl (Nat.le_of_ble_eq_true rfl)) (ct_Hall_checkNumber_2 (x := 4) (lo := 0) (hi := 8) (by decide) (by decide)) ⟨(Nat.le_of_ble_eq_true rfl), (Nat.le_of_ble_eq_true rfl), (Nat.le_of_ble_eq_true rfl), (Nat.le_of_ble_eq_true rfl)⟩ ?_
  show sh_cW _ _ (_, _, []) K L _ _ _ _ _
  refine sh_cp (fun w Z k => sh_aload_n dc_Hall_sync_7 rfl rfl k) ?_
  refine sh_cp (fun w Z k => sh_iload_n dc_Hall_sync_8 rfl rfl k) ?_
  refine sh_ccall (fun w hw => sh_virt (As := [.int (nI s)]) dc_Hall_sync_9 lm_Hall_syncAt ln_Hall_73 wd_272 wd_2 rfl rfl (Nat.le_of_ble_eq_true rfl) (hw _ _ cw_o0) rfl) (ct_Hall_syncAt_2 (s := s) (by omega) (cw_nz hk_s (by decide))) ⟨(Nat.le_of_ble_eq_true rfl), (Nat.le_of_ble_eq_true rfl), (Nat.le_of_ble_eq_true rfl), (Nat.le_of_ble_eq_true rfl)⟩ ?_
  show sh_cW _ _ (_, _, [.ref (A (20 + s))]) K L _ _ _ _ _
  refine sh_cp (fun w Z k => sh_astore_n dc_Hall_sync_12 rfl (by decide) k) ?_
  refine sh_cp (fun w Z k => sh_iload_n dc_Hall_sync_13 rfl rfl k) ?_
  refine sh_cp (fun w Z k => sh_lookup (off := 52) (tgt := 66) dc_Hall_sync_14 (by decide) (by decide) (by decide) k) ?_
  refine sh_cp (fun w Z k => sh_aload_n dc_Hall_sync_66 rfl rfl k) ?_
  refine sh_cget (20 + s) 1 dc_Hall_sync_67 (cw_oa (by omega) hk_s) rfl (by decide) fl_Hall_206 rfl rfl rfl rfl ?_
  refine sh_cp (fun w Z k => sh_iload_n dc_Hall_sync_70 rfl rfl k) ?_
  refine sh_cp (fun w Z k => sh_iconst (v := 2) dc_Hall_sync_71 (by decide) k) ?_
  refine sh_cp (fun w Z k => sh_isub dc_Hall_sync_72 k) ?_
  refine sh_cti (show (4 - 2 : Int32) = 2 from by decide) ?_
  refine sh_ccall (fun w hw => sh_virt (As := [.int 2]) dc_Hall_sync_73 lm_Waiters_at ln_Hall_210 wd_690 wd_22 rfl rfl (Nat.le_of_ble_eq_true rfl) (hw _ _ (cw_ot (by omega) (cw_nz hk_s (by decide)))) rfl) (ct_Waiters_at_3 (s := s) (i := 2) (u18_17 := u18_73) (by omega) (cw_nz hk_s (by decide)) (by omega) c0_73 (by omega) c2_73) ⟨(Nat.le_of_ble_eq_true rfl), (Nat.le_of_ble_eq_true rfl), (Nat.le_of_ble_eq_true rfl), (Nat.le_of_ble_eq_true rfl)⟩ ?_
  show sh_cW _ _ (_, _, [.ref (A (10 + u18_73))]) K L _ _ _ _ _
  refine sh_cp (fun w Z k => sh_astore dc_Hall_sync_76 (by decide) k) ?_
  refine sh_cp (fun w Z k => sh_aload dc_Hall_sync_78 rfl k) ?_
  refine sh_cp (fun w Z k => sh_ifnonnull (tgt := 87) dc_Hall_sync_80 (by decide) k) ?_
  refine sh_cp (fun w Z k => sh_aload dc_Hall_sync_87 rfl k) ?_
  refine sh_cget (10 + u18_73) 0 dc_Hall_sync_89 (cw_ow (by omega)) rfl (by decide) fl_Hall_213 rfl rfl rfl rfl ?_
  exact sh_ce (fun w => sh_ireturn dc_Hall_sync_92 rfl rfl (by decide) (by decide))
theorem ct_Hall_sync_Latch_5_1 {A : Nat → Nat} {K : sh_II} {L : sh_DD} {s : Nat} (hs : s < 8) (hk_s : cw_cl (K 12 s) = 6) (c0_73 : (K 19 s) ≤ (nI 3)) : sh_cM A md_Hall_sync [.ref (A 0), .int (nI s), .int 5] K L (.inl (some (.int (-1)))) K L := by
  refine sh_cp (fun w Z k => sh_iload_n dc_Hall_sync_0 rfl rfl k) ?_
  refine sh_cp (fun w Z k => sh_iconst (v := 0) dc_Hall_sync_1 (by decide) k) ?_
  refine sh_cp (fun w Z k => sh_bipush (v := 8) dc_Hall_sync_2 (by decide) k) ?_
  refine sh_ccall (fun w hw => sh_stat (As := [.int 5, .int 0, .int 8]) dc_Hall_sync_4 lm_Hall_checkNumber ln_Hall_39 wd_191 wd_49 rfl rfl (Nat.le_of_ble_eq_true rfl)) (ct_Hall_checkNumber_2 (x := 5) (lo := 0) (hi := 8) (by decide) (by decide)) ⟨(Nat.le_of_ble_eq_true rfl), (Nat.le_of_ble_eq_true rfl), (Nat.le_of_ble_eq_true rfl), (Nat.le_of_ble_eq_true rfl)⟩ ?_
  show sh_cW _ _ (_, _, []) K L _ _ _ _ _
  refine sh_cp (fun w Z k => sh_aload_n dc_Hall_sync_7 rfl rfl k) ?_
  refine sh_cp (fun w Z k => sh_iload_n dc_Hall_sync_8 rfl rfl k) ?_
  refine sh_ccall (fun w hw => sh_virt (As := [.int (nI s)]) dc_Hall_sync_9 lm_Hall_syncAt ln_Hall_73 wd_272 wd_2 rfl rfl (Nat.le_of_ble_eq_true rfl) (hw _ _ cw_o0) rfl) (ct_Hall_syncAt_2 (s := s) (by omega) (cw_nz hk_s (by decide))) ⟨(Nat.le_of_ble_eq_true rfl), (Nat.le_of_ble_eq_true rfl), (Nat.le_of_ble_eq_true rfl), (Nat.le_of_ble_eq_true rfl)⟩ ?_
  show sh_cW _ _ (_, _, [.ref (A (20 + s))]) K L _ _ _ _ _
  refine sh_cp (fun w Z k => sh_astore_n dc_Hall_sync_12 rfl (by decide) k) ?_
  refine sh_cp (fun w Z k => sh_iload_n dc_Hall_sync_13 rfl rfl k) ?_
  refine sh_cp (fun w Z k => sh_lookup (off := 52) (tgt := 66) dc_Hall_sync_14 (by decide) (by decide) (by decide) k) ?_
  refine sh_cp (fun w Z k => sh_aload_n dc_Hall_sync_66 rfl rfl k) ?_
  refine sh_cget (20 + s) 1 dc_Hall_sync_67 (cw_oa (by omega) hk_s) rfl (by decide) fl_Hall_206 rfl rfl rfl rfl ?_
  refine sh_cp (fun w Z k => sh_iload_n dc_Hall_sync_70 rfl rfl k) ?_
  refine sh_cp (fun w Z k => sh_iconst (v := 2) dc_Hall_sync_71 (by decide) k) ?_
  refine sh_cp (fun w Z k => sh_isub dc_Hall_sync_72 k) ?_
  refine sh_cti (show (5 - 2 : Int32) = 3 from by decide) ?_
  refine sh_ccall (fun w hw => sh_virt (As := [.int 3]) dc_Hall_sync_73 lm_Waiters_at ln_Hall_210 wd_690 wd_22 rfl rfl (Nat.le_of_ble_eq_true rfl) (hw _ _ (cw_ot (by omega) (cw_nz hk_s (by decide)))) rfl) (ct_Waiters_at_1 (s := s) (i := 3) (by omega) (cw_nz hk_s (by decide)) (by omega) c0_73) ⟨(Nat.le_of_ble_eq_true rfl), (Nat.le_of_ble_eq_true rfl), (Nat.le_of_ble_eq_true rfl), (Nat.le_of_ble_eq_true rfl)⟩ ?_
  show sh_cW _ _ (_, _, [.null]) K L _ _ _ _ _
  refine sh_cp (fun w Z k => sh_astoreN dc_Hall_sync_76 (by decide) k) ?_
  refine sh_cp (fun w Z k => sh_aloadq (x := none) dc_Hall_sync_78 rfl k) ?_
  show sh_cW _ _ (_, _, .null :: _) _ _ _ _ _ _ _
  refine sh_cp (fun w Z k => sh_ifnonnullN dc_Hall_sync_80 k) ?_
  refine sh_cp (fun w Z k => sh_iconst (v := (-1)) dc_Hall_sync_83 (by decide) k) ?_
  refine sh_cp (fun w Z k => sh_goto_ (tgt := 92) dc_Hall_sync_84 (by decide) k) ?_
  exact sh_ce (fun w => sh_ireturn dc_Hall_sync_92 rfl rfl (by decide) (by decide))
theorem ct_Hall_sync_Latch_5_2 {A : Nat → Nat} {K : sh_II} {L : sh_DD} {s : Nat} (hs : s < 8) (hk_s : cw_cl (K 12 s) = 6) (c0_73 : ¬ (K 19 s) ≤ (nI 3)) (c1_73 : (K 18 (6 * s + 3)) = -1) : sh_cM A md_Hall_sync [.ref (A 0), .int (nI s), .int 5] K L (.inl (some (.int (-1)))) K L := by
  refine sh_cp (fun w Z k => sh_iload_n dc_Hall_sync_0 rfl rfl k) ?_
  refine sh_cp (fun w Z k => sh_iconst (v := 0) dc_Hall_sync_1 (by decide) k) ?_
  refine sh_cp (fun w Z k => sh_bipush (v := 8) dc_Hall_sync_2 (by decide) k) ?_
  refine sh_ccall (fun w hw => sh_stat (As := [.int 5, .int 0, .int 8]) dc_Hall_sync_4 lm_Hall_checkNumber ln_Hall_39 wd_191 wd_49 rfl rfl (Nat.le_of_ble_eq_true rfl)) (ct_Hall_checkNumber_2 (x := 5) (lo := 0) (hi := 8) (by decide) (by decide)) ⟨(Nat.le_of_ble_eq_true rfl), (Nat.le_of_ble_eq_true rfl), (Nat.le_of_ble_eq_true rfl), (Nat.le_of_ble_eq_true rfl)⟩ ?_
  show sh_cW _ _ (_, _, []) K L _ _ _ _ _
  refine sh_cp (fun w Z k => sh_aload_n dc_Hall_sync_7 rfl rfl k) ?_
  refine sh_cp (fun w Z k => sh_iload_n dc_Hall_sync_8 rfl rfl k) ?_
  refine sh_ccall (fun w hw => sh_virt (As := [.int (nI s)]) dc_Hall_sync_9 lm_Hall_syncAt ln_Hall_73 wd_272 wd_2 rfl rfl (Nat.le_of_ble_eq_true rfl) (hw _ _ cw_o0) rfl) (ct_Hall_syncAt_2 (s := s) (by omega) (cw_nz hk_s (by decide))) ⟨(Nat.le_of_ble_eq_true rfl), (Nat.le_of_ble_eq_true rfl), (Nat.le_of_ble_eq_true rfl), (Nat.le_of_ble_eq_true rfl)⟩ ?_
  show sh_cW _ _ (_, _, [.ref (A (20 + s))]) K L _ _ _ _ _
  refine sh_cp (fun w Z k => sh_astore_n dc_Hall_sync_12 rfl (by decide) k) ?_
  refine sh_cp (fun w Z k => sh_iload_n dc_Hall_sync_13 rfl rfl k) ?_
  refine sh_cp (fun w Z k => sh_lookup (off := 52) (tgt := 66) dc_Hall_sync_14 (by decide) (by decide) (by decide) k) ?_
  refine sh_cp (fun w Z k => sh_aload_n dc_Hall_sync_66 rfl rfl k) ?_
  refine sh_cget (20 + s) 1 dc_Hall_sync_67 (cw_oa (by omega) hk_s) rfl (by decide) fl_Hall_206 rfl rfl rfl rfl ?_
  refine sh_cp (fun w Z k => sh_iload_n dc_Hall_sync_70 rfl rfl k) ?_
  refine sh_cp (fun w Z k => sh_iconst (v := 2) dc_Hall_sync_71 (by decide) k) ?_
  refine sh_cp (fun w Z k => sh_isub dc_Hall_sync_72 k) ?_
  refine sh_cti (show (5 - 2 : Int32) = 3 from by decide) ?_
  refine sh_ccall (fun w hw => sh_virt (As := [.int 3]) dc_Hall_sync_73 lm_Waiters_at ln_Hall_210 wd_690 wd_22 rfl rfl (Nat.le_of_ble_eq_true rfl) (hw _ _ (cw_ot (by omega) (cw_nz hk_s (by decide)))) rfl) (ct_Waiters_at_2 (s := s) (i := 3) (by omega) (cw_nz hk_s (by decide)) (by omega) c0_73 c1_73) ⟨(Nat.le_of_ble_eq_true rfl), (Nat.le_of_ble_eq_true rfl), (Nat.le_of_ble_eq_true rfl), (Nat.le_of_ble_eq_true rfl)⟩ ?_
  show sh_cW _ _ (_, _, [.null]) K L _ _ _ _ _
  refine sh_cp (fun w Z k => sh_astoreN dc_Hall_sync_76 (by decide) k) ?_
  refine sh_cp (fun w Z k => sh_aloadq (x := none) dc_Hall_sync_78 rfl k) ?_
  show sh_cW _ _ (_, _, .null :: _) _ _ _ _ _ _ _
  refine sh_cp (fun w Z k => sh_ifnonnullN dc_Hall_sync_80 k) ?_
  refine sh_cp (fun w Z k => sh_iconst (v := (-1)) dc_Hall_sync_83 (by decide) k) ?_
  refine sh_cp (fun w Z k => sh_goto_ (tgt := 92) dc_Hall_sync_84 (by decide) k) ?_
  exact sh_ce (fun w => sh_ireturn dc_Hall_sync_92 rfl rfl (by decide) (by decide))
theorem ct_Hall_sync_Latch_5_3 {A : Nat → Nat} {K : sh_II} {L : sh_DD} {s : Nat} {u18_73 : Nat} (hs : s < 8) (hk_s : cw_cl (K 12 s) = 6) (c0_73 : ¬ (K 19 s) ≤ (nI 3)) (hu18_73 : u18_73 < 6) (c2_73 : (K 18 (6 * s + 3)) = nI u18_73) : sh_cM A md_Hall_sync [.ref (A 0), .int (nI s), .int 5] K L (.inl (some (.int (nI u18_73)))) K L := by
  refine sh_cp (fun w Z k => sh_iload_n dc_Hall_sync_0 rfl rfl k) ?_
  refine sh_cp (fun w Z k => sh_iconst (v := 0) dc_Hall_sync_1 (by decide) k) ?_
  refine sh_cp (fun w Z k => sh_bipush (v := 8) dc_Hall_sync_2 (by decide) k) ?_
  refine sh_ccall (fun w hw => sh_stat (As := [.int 5, .int 0, .int 8]) dc_Hall_sync_4 lm_Hall_checkNumber ln_Hall_39 wd_191 wd_49 rfl rfl (Nat.le_of_ble_eq_true rfl)) (ct_Hall_checkNumber_2 (x := 5) (lo := 0) (hi := 8) (by decide) (by decide)) ⟨(Nat.le_of_ble_eq_true rfl), (Nat.le_of_ble_eq_true rfl), (Nat.le_of_ble_eq_true rfl), (Nat.le_of_ble_eq_true rfl)⟩ ?_
  show sh_cW _ _ (_, _, []) K L _ _ _ _ _
  refine sh_cp (fun w Z k => sh_aload_n dc_Hall_sync_7 rfl rfl k) ?_
  refine sh_cp (fun w Z k => sh_iload_n dc_Hall_sync_8 rfl rfl k) ?_
  refine sh_ccall (fun w hw => sh_virt (As := [.int (nI s)]) dc_Hall_sync_9 lm_Hall_syncAt ln_Hall_73 wd_272 wd_2 rfl rfl (Nat.le_of_ble_eq_true rfl) (hw _ _ cw_o0) rfl) (ct_Hall_syncAt_2 (s := s) (by omega) (cw_nz hk_s (by decide))) ⟨(Nat.le_of_ble_eq_true rfl), (Nat.le_of_ble_eq_true rfl), (Nat.le_of_ble_eq_true rfl), (Nat.le_of_ble_eq_true rfl)⟩ ?_
  show sh_cW _ _ (_, _, [.ref (A (20 + s))]) K L _ _ _ _ _
  refine sh_cp (fun w Z k => sh_astore_n dc_Hall_sync_12 rfl (by decide) k) ?_
  refine sh_cp (fun w Z k => sh_iload_n dc_Hall_sync_13 rfl rfl k) ?_
  refine sh_cp (fun w Z k => sh_lookup (off := 52) (tgt := 66) dc_Hall_sync_14 (by decide) (by decide) (by decide) k) ?_
  refine sh_cp (fun w Z k => sh_aload_n dc_Hall_sync_66 rfl rfl k) ?_
  refine sh_cget (20 + s) 1 dc_Hall_sync_67 (cw_oa (by omega) hk_s) rfl (by decide) fl_Hall_206 rfl rfl rfl rfl ?_
  refine sh_cp (fun w Z k => sh_iload_n dc_Hall_sync_70 rfl rfl k) ?_
  refine sh_cp (fun w Z k => sh_iconst (v := 2) dc_Hall_sync_71 (by decide) k) ?_
  refine sh_cp (fun w Z k => sh_isub dc_Hall_sync_72 k) ?_
  refine sh_cti (show (5 - 2 : Int32) = 3 from by decide) ?_
  refine sh_ccall (fun w hw => sh_virt (As := [.int 3]) dc_Hall_sync_73 lm_Waiters_at ln_Hall_210 wd_690 wd_22 rfl rfl (Nat.le_of_ble_eq_true rfl) (hw _ _ (cw_ot (by omega) (cw_nz hk_s (by decide)))) rfl) (ct_Waiters_at_3 (s := s) (i := 3) (u18_17 := u18_73) (by omega) (cw_nz hk_s (by decide)) (by omega) c0_73 (by omega) c2_73) ⟨(Nat.le_of_ble_eq_true rfl), (Nat.le_of_ble_eq_true rfl), (Nat.le_of_ble_eq_true rfl), (Nat.le_of_ble_eq_true rfl)⟩ ?_
  show sh_cW _ _ (_, _, [.ref (A (10 + u18_73))]) K L _ _ _ _ _
  refine sh_cp (fun w Z k => sh_astore dc_Hall_sync_76 (by decide) k) ?_
  refine sh_cp (fun w Z k => sh_aload dc_Hall_sync_78 rfl k) ?_
  refine sh_cp (fun w Z k => sh_ifnonnull (tgt := 87) dc_Hall_sync_80 (by decide) k) ?_
  refine sh_cp (fun w Z k => sh_aload dc_Hall_sync_87 rfl k) ?_
  refine sh_cget (10 + u18_73) 0 dc_Hall_sync_89 (cw_ow (by omega)) rfl (by decide) fl_Hall_213 rfl rfl rfl rfl ?_
  exact sh_ce (fun w => sh_ireturn dc_Hall_sync_92 rfl rfl (by decide) (by decide))
theorem ct_Hall_sync_Latch_6_1 {A : Nat → Nat} {K : sh_II} {L : sh_DD} {s : Nat} (hs : s < 8) (hk_s : cw_cl (K 12 s) = 6) (c0_73 : (K 19 s) ≤ (nI 4)) : sh_cM A md_Hall_sync [.ref (A 0), .int (nI s), .int 6] K L (.inl (some (.int (-1)))) K L := by
  refine sh_cp (fun w Z k => sh_iload_n dc_Hall_sync_0 rfl rfl k) ?_
  refine sh_cp (fun w Z k => sh_iconst (v := 0) dc_Hall_sync_1 (by decide) k) ?_
  refine sh_cp (fun w Z k => sh_bipush (v := 8) dc_Hall_sync_2 (by decide) k) ?_
  refine sh_ccall (fun w hw => sh_stat (As := [.int 6, .int 0, .int 8]) dc_Hall_sync_4 lm_Hall_checkNumber ln_Hall_39 wd_191 wd_49 rfl rfl (Nat.le_of_ble_eq_true rfl)) (ct_Hall_checkNumber_2 (x := 6) (lo := 0) (hi := 8) (by decide) (by decide)) ⟨(Nat.le_of_ble_eq_true rfl), (Nat.le_of_ble_eq_true rfl), (Nat.le_of_ble_eq_true rfl), (Nat.le_of_ble_eq_true rfl)⟩ ?_
  show sh_cW _ _ (_, _, []) K L _ _ _ _ _
  refine sh_cp (fun w Z k => sh_aload_n dc_Hall_sync_7 rfl rfl k) ?_
  refine sh_cp (fun w Z k => sh_iload_n dc_Hall_sync_8 rfl rfl k) ?_
  refine sh_ccall (fun w hw => sh_virt (As := [.int (nI s)]) dc_Hall_sync_9 lm_Hall_syncAt ln_Hall_73 wd_272 wd_2 rfl rfl (Nat.le_of_ble_eq_true rfl) (hw _ _ cw_o0) rfl) (ct_Hall_syncAt_2 (s := s) (by omega) (cw_nz hk_s (by decide))) ⟨(Nat.le_of_ble_eq_true rfl), (Nat.le_of_ble_eq_true rfl), (Nat.le_of_ble_eq_true rfl), (Nat.le_of_ble_eq_true rfl)⟩ ?_
  show sh_cW _ _ (_, _, [.ref (A (20 + s))]) K L _ _ _ _ _
  refine sh_cp (fun w Z k => sh_astore_n dc_Hall_sync_12 rfl (by decide) k) ?_
  refine sh_cp (fun w Z k => sh_iload_n dc_Hall_sync_13 rfl rfl k) ?_
  refine sh_cp (fun w Z k => sh_lookup (off := 52) (tgt := 66) dc_Hall_sync_14 (by decide) (by decide) (by decide) k) ?_
  refine sh_cp (fun w Z k => sh_aload_n dc_Hall_sync_66 rfl rfl k) ?_
  refine sh_cget (20 + s) 1 dc_Hall_sync_67 (cw_oa (by omega) hk_s) rfl (by decide) fl_Hall_206 rfl rfl rfl rfl ?_
  refine sh_cp (fun w Z k => sh_iload_n dc_Hall_sync_70 rfl rfl k) ?_
  refine sh_cp (fun w Z k => sh_iconst (v := 2) dc_Hall_sync_71 (by decide) k) ?_
  refine sh_cp (fun w Z k => sh_isub dc_Hall_sync_72 k) ?_
  refine sh_cti (show (6 - 2 : Int32) = 4 from by decide) ?_
  refine sh_ccall (fun w hw => sh_virt (As := [.int 4]) dc_Hall_sync_73 lm_Waiters_at ln_Hall_210 wd_690 wd_22 rfl rfl (Nat.le_of_ble_eq_true rfl) (hw _ _ (cw_ot (by omega) (cw_nz hk_s (by decide)))) rfl) (ct_Waiters_at_1 (s := s) (i := 4) (by omega) (cw_nz hk_s (by decide)) (by omega) c0_73) ⟨(Nat.le_of_ble_eq_true rfl), (Nat.le_of_ble_eq_true rfl), (Nat.le_of_ble_eq_true rfl), (Nat.le_of_ble_eq_true rfl)⟩ ?_
  show sh_cW _ _ (_, _, [.null]) K L _ _ _ _ _
  refine sh_cp (fun w Z k => sh_astoreN dc_Hall_sync_76 (by decide) k) ?_
  refine sh_cp (fun w Z k => sh_aloadq (x := none) dc_Hall_sync_78 rfl k) ?_
  show sh_cW _ _ (_, _, .null :: _) _ _ _ _ _ _ _
  refine sh_cp (fun w Z k => sh_ifnonnullN dc_Hall_sync_80 k) ?_
  refine sh_cp (fun w Z k => sh_iconst (v := (-1)) dc_Hall_sync_83 (by decide) k) ?_
  refine sh_cp (fun w Z k => sh_goto_ (tgt := 92) dc_Hall_sync_84 (by decide) k) ?_
  exact sh_ce (fun w => sh_ireturn dc_Hall_sync_92 rfl rfl (by decide) (by decide))
theorem ct_Hall_sync_Latch_6_2 {A : Nat → Nat} {K : sh_II} {L : sh_DD} {s : Nat} (hs : s < 8) (hk_s : cw_cl (K 12 s) = 6) (c0_73 : ¬ (K 19 s) ≤ (nI 4)) (c1_73 : (K 18 (6 * s + 4)) = -1) : sh_cM A md_Hall_sync [.ref (A 0), .int (nI s), .int 6] K L (.inl (some (.int (-1)))) K L := by
  refine sh_cp (fun w Z k => sh_iload_n dc_Hall_sync_0 rfl rfl k) ?_
  refine sh_cp (fun w Z k => sh_iconst (v := 0) dc_Hall_sync_1 (by decide) k) ?_
  refine sh_cp (fun w Z k => sh_bipush (v := 8) dc_Hall_sync_2 (by decide) k) ?_
  refine sh_ccall (fun w hw => sh_stat (As := [.int 6, .int 0, .int 8]) dc_Hall_sync_4 lm_Hall_checkNumber ln_Hall_39 wd_191 wd_49 rfl rfl (Nat.le_of_ble_eq_true rfl)) (ct_Hall_checkNumber_2 (x := 6) (lo := 0) (hi := 8) (by decide) (by decide)) ⟨(Nat.le_of_ble_eq_true rfl), (Nat.le_of_ble_eq_true rfl), (Nat.le_of_ble_eq_true rfl), (Nat.le_of_ble_eq_true rfl)⟩ ?_
  show sh_cW _ _ (_, _, []) K L _ _ _ _ _
  refine sh_cp (fun w Z k => sh_aload_n dc_Hall_sync_7 rfl rfl k) ?_
  refine sh_cp (fun w Z k => sh_iload_n dc_Hall_sync_8 rfl rfl k) ?_
  refine sh_ccall (fun w hw => sh_virt (As := [.int (nI s)]) dc_Hall_sync_9 lm_Hall_syncAt ln_Hall_73 wd_272 wd_2 rfl rfl (Nat.le_of_ble_eq_true rfl) (hw _ _ cw_o0) rfl) (ct_Hall_syncAt_2 (s := s) (by omega) (cw_nz hk_s (by decide))) ⟨(Nat.le_of_ble_eq_true rfl), (Nat.le_of_ble_eq_true rfl), (Nat.le_of_ble_eq_true rfl), (Nat.le_of_ble_eq_true rfl)⟩ ?_
  show sh_cW _ _ (_, _, [.ref (A (20 + s))]) K L _ _ _ _ _
  refine sh_cp (fun w Z k => sh_astore_n dc_Hall_sync_12 rfl (by decide) k) ?_
  refine sh_cp (fun w Z k => sh_iload_n dc_Hall_sync_13 rfl rfl k) ?_
  refine sh_cp (fun w Z k => sh_lookup (off := 52) (tgt := 66) dc_Hall_sync_14 (by decide) (by decide) (by decide) k) ?_
  refine sh_cp (fun w Z k => sh_aload_n dc_Hall_sync_66 rfl rfl k) ?_
  refine sh_cget (20 + s) 1 dc_Hall_sync_67 (cw_oa (by omega) hk_s) rfl (by decide) fl_Hall_206 rfl rfl rfl rfl ?_
  refine sh_cp (fun w Z k => sh_iload_n dc_Hall_sync_70 rfl rfl k) ?_
  refine sh_cp (fun w Z k => sh_iconst (v := 2) dc_Hall_sync_71 (by decide) k) ?_
  refine sh_cp (fun w Z k => sh_isub dc_Hall_sync_72 k) ?_
  refine sh_cti (show (6 - 2 : Int32) = 4 from by decide) ?_
  refine sh_ccall (fun w hw => sh_virt (As := [.int 4]) dc_Hall_sync_73 lm_Waiters_at ln_Hall_210 wd_690 wd_22 rfl rfl (Nat.le_of_ble_eq_true rfl) (hw _ _ (cw_ot (by omega) (cw_nz hk_s (by decide)))) rfl) (ct_Waiters_at_2 (s := s) (i := 4) (by omega) (cw_nz hk_s (by decide)) (by omega) c0_73 c1_73) ⟨(Nat.le_of_ble_eq_true rfl), (Nat.le_of_ble_eq_true rfl), (Nat.le_of_ble_eq_true rfl), (Nat.le_of_ble_eq_true rfl)⟩ ?_
  show sh_cW _ _ (_, _, [.null]) K L _ _ _ _ _
  refine sh_cp (fun w Z k => sh_astoreN dc_Hall_sync_76 (by decide) k) ?_
  refine sh_cp (fun w Z k => sh_aloadq (x := none) dc_Hall_sync_78 rfl k) ?_
  show sh_cW _ _ (_, _, .null :: _) _ _ _ _ _ _ _
  refine sh_cp (fun w Z k => sh_ifnonnullN dc_Hall_sync_80 k) ?_
  refine sh_cp (fun w Z k => sh_iconst (v := (-1)) dc_Hall_sync_83 (by decide) k) ?_
  refine sh_cp (fun w Z k => sh_goto_ (tgt := 92) dc_Hall_sync_84 (by decide) k) ?_
  exact sh_ce (fun w => sh_ireturn dc_Hall_sync_92 rfl rfl (by decide) (by decide))
theorem ct_Hall_sync_Latch_6_3 {A : Nat → Nat} {K : sh_II} {L : sh_DD} {s : Nat} {u18_73 : Nat} (hs : s < 8) (hk_s : cw_cl (K 12 s) = 6) (c0_73 : ¬ (K 19 s) ≤ (nI 4)) (hu18_73 : u18_73 < 6) (c2_73 : (K 18 (6 * s + 4)) = nI u18_73) : sh_cM A md_Hall_sync [.ref (A 0), .int (nI s), .int 6] K L (.inl (some (.int (nI u18_73)))) K L := by
  refine sh_cp (fun w Z k => sh_iload_n dc_Hall_sync_0 rfl rfl k) ?_
  refine sh_cp (fun w Z k => sh_iconst (v := 0) dc_Hall_sync_1 (by decide) k) ?_
  refine sh_cp (fun w Z k => sh_bipush (v := 8) dc_Hall_sync_2 (by decide) k) ?_
  refine sh_ccall (fun w hw => sh_stat (As := [.int 6, .int 0, .int 8]) dc_Hall_sync_4 lm_Hall_checkNumber ln_Hall_39 wd_191 wd_49 rfl rfl (Nat.le_of_ble_eq_true rfl)) (ct_Hall_checkNumber_2 (x := 6) (lo := 0) (hi := 8) (by decide) (by decide)) ⟨(Nat.le_of_ble_eq_true rfl), (Nat.le_of_ble_eq_true rfl), (Nat.le_of_ble_eq_true rfl), (Nat.le_of_ble_eq_true rfl)⟩ ?_
  show sh_cW _ _ (_, _, []) K L _ _ _ _ _
  refine sh_cp (fun w Z k => sh_aload_n dc_Hall_sync_7 rfl rfl k) ?_
  refine sh_cp (fun w Z k => sh_iload_n dc_Hall_sync_8 rfl rfl k) ?_
  refine sh_ccall (fun w hw => sh_virt (As := [.int (nI s)]) dc_Hall_sync_9 lm_Hall_syncAt ln_Hall_73 wd_272 wd_2 rfl rfl (Nat.le_of_ble_eq_true rfl) (hw _ _ cw_o0) rfl) (ct_Hall_syncAt_2 (s := s) (by omega) (cw_nz hk_s (by decide))) ⟨(Nat.le_of_ble_eq_true rfl), (Nat.le_of_ble_eq_true rfl), (Nat.le_of_ble_eq_true rfl), (Nat.le_of_ble_eq_true rfl)⟩ ?_
  show sh_cW _ _ (_, _, [.ref (A (20 + s))]) K L _ _ _ _ _
  refine sh_cp (fun w Z k => sh_astore_n dc_Hall_sync_12 rfl (by decide) k) ?_
  refine sh_cp (fun w Z k => sh_iload_n dc_Hall_sync_13 rfl rfl k) ?_
  refine sh_cp (fun w Z k => sh_lookup (off := 52) (tgt := 66) dc_Hall_sync_14 (by decide) (by decide) (by decide) k) ?_
  refine sh_cp (fun w Z k => sh_aload_n dc_Hall_sync_66 rfl rfl k) ?_
  refine sh_cget (20 + s) 1 dc_Hall_sync_67 (cw_oa (by omega) hk_s) rfl (by decide) fl_Hall_206 rfl rfl rfl rfl ?_
  refine sh_cp (fun w Z k => sh_iload_n dc_Hall_sync_70 rfl rfl k) ?_
  refine sh_cp (fun w Z k => sh_iconst (v := 2) dc_Hall_sync_71 (by decide) k) ?_
  refine sh_cp (fun w Z k => sh_isub dc_Hall_sync_72 k) ?_
  refine sh_cti (show (6 - 2 : Int32) = 4 from by decide) ?_
  refine sh_ccall (fun w hw => sh_virt (As := [.int 4]) dc_Hall_sync_73 lm_Waiters_at ln_Hall_210 wd_690 wd_22 rfl rfl (Nat.le_of_ble_eq_true rfl) (hw _ _ (cw_ot (by omega) (cw_nz hk_s (by decide)))) rfl) (ct_Waiters_at_3 (s := s) (i := 4) (u18_17 := u18_73) (by omega) (cw_nz hk_s (by decide)) (by omega) c0_73 (by omega) c2_73) ⟨(Nat.le_of_ble_eq_true rfl), (Nat.le_of_ble_eq_true rfl), (Nat.le_of_ble_eq_true rfl), (Nat.le_of_ble_eq_true rfl)⟩ ?_
  show sh_cW _ _ (_, _, [.ref (A (10 + u18_73))]) K L _ _ _ _ _
  refine sh_cp (fun w Z k => sh_astore dc_Hall_sync_76 (by decide) k) ?_
  refine sh_cp (fun w Z k => sh_aload dc_Hall_sync_78 rfl k) ?_
  refine sh_cp (fun w Z k => sh_ifnonnull (tgt := 87) dc_Hall_sync_80 (by decide) k) ?_
  refine sh_cp (fun w Z k => sh_aload dc_Hall_sync_87 rfl k) ?_
  refine sh_cget (10 + u18_73) 0 dc_Hall_sync_89 (cw_ow (by omega)) rfl (by decide) fl_Hall_213 rfl rfl rfl rfl ?_
  exact sh_ce (fun w => sh_ireturn dc_Hall_sync_92 rfl rfl (by decide) (by decide))
theorem ct_Hall_sync_Latch_7_1 {A : Nat → Nat} {K : sh_II} {L : sh_DD} {s : Nat} (hs : s < 8) (hk_s : cw_cl (K 12 s) = 6) (c0_73 : (K 19 s) ≤ (nI 5)) : sh_cM A md_Hall_sync [.ref (A 0), .int (nI s), .int 7] K L (.inl (some (.int (-1)))) K L := by
  refine sh_cp (fun w Z k => sh_iload_n dc_Hall_sync_0 rfl rfl k) ?_
  refine sh_cp (fun w Z k => sh_iconst (v := 0) dc_Hall_sync_1 (by decide) k) ?_
  refine sh_cp (fun w Z k => sh_bipush (v := 8) dc_Hall_sync_2 (by decide) k) ?_
  refine sh_ccall (fun w hw => sh_stat (As := [.int 7, .int 0, .int 8]) dc_Hall_sync_4 lm_Hall_checkNumber ln_Hall_39 wd_191 wd_49 rfl rfl (Nat.le_of_ble_eq_true rfl)) (ct_Hall_checkNumber_2 (x := 7) (lo := 0) (hi := 8) (by decide) (by decide)) ⟨(Nat.le_of_ble_eq_true rfl), (Nat.le_of_ble_eq_true rfl), (Nat.le_of_ble_eq_true rfl), (Nat.le_of_ble_eq_true rfl)⟩ ?_
  show sh_cW _ _ (_, _, []) K L _ _ _ _ _
  refine sh_cp (fun w Z k => sh_aload_n dc_Hall_sync_7 rfl rfl k) ?_
  refine sh_cp (fun w Z k => sh_iload_n dc_Hall_sync_8 rfl rfl k) ?_
  refine sh_ccall (fun w hw => sh_virt (As := [.int (nI s)]) dc_Hall_sync_9 lm_Hall_syncAt ln_Hall_73 wd_272 wd_2 rfl rfl (Nat.le_of_ble_eq_true rfl) (hw _ _ cw_o0) rfl) (ct_Hall_syncAt_2 (s := s) (by omega) (cw_nz hk_s (by decide))) ⟨(Nat.le_of_ble_eq_true rfl), (Nat.le_of_ble_eq_true rfl), (Nat.le_of_ble_eq_true rfl), (Nat.le_of_ble_eq_true rfl)⟩ ?_
  show sh_cW _ _ (_, _, [.ref (A (20 + s))]) K L _ _ _ _ _
  refine sh_cp (fun w Z k => sh_astore_n dc_Hall_sync_12 rfl (by decide) k) ?_
  refine sh_cp (fun w Z k => sh_iload_n dc_Hall_sync_13 rfl rfl k) ?_
  refine sh_cp (fun w Z k => sh_lookup (off := 52) (tgt := 66) dc_Hall_sync_14 (by decide) (by decide) (by decide) k) ?_
  refine sh_cp (fun w Z k => sh_aload_n dc_Hall_sync_66 rfl rfl k) ?_
  refine sh_cget (20 + s) 1 dc_Hall_sync_67 (cw_oa (by omega) hk_s) rfl (by decide) fl_Hall_206 rfl rfl rfl rfl ?_
  refine sh_cp (fun w Z k => sh_iload_n dc_Hall_sync_70 rfl rfl k) ?_
  refine sh_cp (fun w Z k => sh_iconst (v := 2) dc_Hall_sync_71 (by decide) k) ?_
  refine sh_cp (fun w Z k => sh_isub dc_Hall_sync_72 k) ?_
  refine sh_cti (show (7 - 2 : Int32) = 5 from by decide) ?_
  refine sh_ccall (fun w hw => sh_virt (As := [.int 5]) dc_Hall_sync_73 lm_Waiters_at ln_Hall_210 wd_690 wd_22 rfl rfl (Nat.le_of_ble_eq_true rfl) (hw _ _ (cw_ot (by omega) (cw_nz hk_s (by decide)))) rfl) (ct_Waiters_at_1 (s := s) (i := 5) (by omega) (cw_nz hk_s (by decide)) (by omega) c0_73) ⟨(Nat.le_of_ble_eq_true rfl), (Nat.le_of_ble_eq_true rfl), (Nat.le_of_ble_eq_true rfl), (Nat.le_of_ble_eq_true rfl)⟩ ?_
  show sh_cW _ _ (_, _, [.null]) K L _ _ _ _ _
  refine sh_cp (fun w Z k => sh_astoreN dc_Hall_sync_76 (by decide) k) ?_
  refine sh_cp (fun w Z k => sh_aloadq (x := none) dc_Hall_sync_78 rfl k) ?_
  show sh_cW _ _ (_, _, .null :: _) _ _ _ _ _ _ _
  refine sh_cp (fun w Z k => sh_ifnonnullN dc_Hall_sync_80 k) ?_
  refine sh_cp (fun w Z k => sh_iconst (v := (-1)) dc_Hall_sync_83 (by decide) k) ?_
  refine sh_cp (fun w Z k => sh_goto_ (tgt := 92) dc_Hall_sync_84 (by decide) k) ?_
  exact sh_ce (fun w => sh_ireturn dc_Hall_sync_92 rfl rfl (by decide) (by decide))
theorem ct_Hall_sync_Latch_7_2 {A : Nat → Nat} {K : sh_II} {L : sh_DD} {s : Nat} (hs : s < 8) (hk_s : cw_cl (K 12 s) = 6) (c0_73 : ¬ (K 19 s) ≤ (nI 5)) (c1_73 : (K 18 (6 * s + 5)) = -1) : sh_cM A md_Hall_sync [.ref (A 0), .int (nI s), .int 7] K L (.inl (some (.int (-1)))) K L := by
  refine sh_cp (fun w Z k => sh_iload_n dc_Hall_sync_0 rfl rfl k) ?_
  refine sh_cp (fun w Z k => sh_iconst (v := 0) dc_Hall_sync_1 (by decide) k) ?_
  refine sh_cp (fun w Z k => sh_bipush (v := 8) dc_Hall_sync_2 (by decide) k) ?_
  refine sh_ccall (fun w hw => sh_stat (As := [.int 7, .int 0, .int 8]) dc_Hall_sync_4 lm_Hall_checkNumber ln_Hall_39 wd_191 wd_49 rfl rfl (Nat.le_of_ble_eq_true rfl)) (ct_Hall_checkNumber_2 (x := 7) (lo := 0) (hi := 8) (by decide) (by decide)) ⟨(Nat.le_of_ble_eq_true rfl), (Nat.le_of_ble_eq_true rfl), (Nat.le_of_ble_eq_true rfl), (Nat.le_of_ble_eq_true rfl)⟩ ?_
  show sh_cW _ _ (_, _, []) K L _ _ _ _ _
  refine sh_cp (fun w Z k => sh_aload_n dc_Hall_sync_7 rfl rfl k) ?_
  refine sh_cp (fun w Z k => sh_iload_n dc_Hall_sync_8 rfl rfl k) ?_
  refine sh_ccall (fun w hw => sh_virt (As := [.int (nI s)]) dc_Hall_sync_9 lm_Hall_syncAt ln_Hall_73 wd_272 wd_2 rfl rfl (Nat.le_of_ble_eq_true rfl) (hw _ _ cw_o0) rfl) (ct_Hall_syncAt_2 (s := s) (by omega) (cw_nz hk_s (by decide))) ⟨(Nat.le_of_ble_eq_true rfl), (Nat.le_of_ble_eq_true rfl), (Nat.le_of_ble_eq_true rfl), (Nat.le_of_ble_eq_true rfl)⟩ ?_
  show sh_cW _ _ (_, _, [.ref (A (20 + s))]) K L _ _ _ _ _
  refine sh_cp (fun w Z k => sh_astore_n dc_Hall_sync_12 rfl (by decide) k) ?_
  refine sh_cp (fun w Z k => sh_iload_n dc_Hall_sync_13 rfl rfl k) ?_
  refine sh_cp (fun w Z k => sh_lookup (off := 52) (tgt := 66) dc_Hall_sync_14 (by decide) (by decide) (by decide) k) ?_
  refine sh_cp (fun w Z k => sh_aload_n dc_Hall_sync_66 rfl rfl k) ?_
  refine sh_cget (20 + s) 1 dc_Hall_sync_67 (cw_oa (by omega) hk_s) rfl (by decide) fl_Hall_206 rfl rfl rfl rfl ?_
  refine sh_cp (fun w Z k => sh_iload_n dc_Hall_sync_70 rfl rfl k) ?_
  refine sh_cp (fun w Z k => sh_iconst (v := 2) dc_Hall_sync_71 (by decide) k) ?_
  refine sh_cp (fun w Z k => sh_isub dc_Hall_sync_72 k) ?_
  refine sh_cti (show (7 - 2 : Int32) = 5 from by decide) ?_
  refine sh_ccall (fun w hw => sh_virt (As := [.int 5]) dc_Hall_sync_73 lm_Waiters_at ln_Hall_210 wd_690 wd_22 rfl rfl (Nat.le_of_ble_eq_true rfl) (hw _ _ (cw_ot (by omega) (cw_nz hk_s (by decide)))) rfl) (ct_Waiters_at_2 (s := s) (i := 5) (by omega) (cw_nz hk_s (by decide)) (by omega) c0_73 c1_73) ⟨(Nat.le_of_ble_eq_true rfl), (Nat.le_of_ble_eq_true rfl), (Nat.le_of_ble_eq_true rfl), (Nat.le_of_ble_eq_true rfl)⟩ ?_
  show sh_cW _ _ (_, _, [.null]) K L _ _ _ _ _
  refine sh_cp (fun w Z k => sh_astoreN dc_Hall_sync_76 (by decide) k) ?_
  refine sh_cp (fun w Z k => sh_aloadq (x := none) dc_Hall_sync_78 rfl k) ?_
  show sh_cW _ _ (_, _, .null :: _) _ _ _ _ _ _ _
  refine sh_cp (fun w Z k => sh_ifnonnullN dc_Hall_sync_80 k) ?_
  refine sh_cp (fun w Z k => sh_iconst (v := (-1)) dc_Hall_sync_83 (by decide) k) ?_
  refine sh_cp (fun w Z k => sh_goto_ (tgt := 92) dc_Hall_sync_84 (by decide) k) ?_
  exact sh_ce (fun w => sh_ireturn dc_Hall_sync_92 rfl rfl (by decide) (by decide))
theorem ct_Hall_sync_Latch_7_3 {A : Nat → Nat} {K : sh_II} {L : sh_DD} {s : Nat} {u18_73 : Nat} (hs : s < 8) (hk_s : cw_cl (K 12 s) = 6) (c0_73 : ¬ (K 19 s) ≤ (nI 5)) (hu18_73 : u18_73 < 6) (c2_73 : (K 18 (6 * s + 5)) = nI u18_73) : sh_cM A md_Hall_sync [.ref (A 0), .int (nI s), .int 7] K L (.inl (some (.int (nI u18_73)))) K L := by
  refine sh_cp (fun w Z k => sh_iload_n dc_Hall_sync_0 rfl rfl k) ?_
  refine sh_cp (fun w Z k => sh_iconst (v := 0) dc_Hall_sync_1 (by decide) k) ?_
  refine sh_cp (fun w Z k => sh_bipush (v := 8) dc_Hall_sync_2 (by decide) k) ?_
  refine sh_ccall (fun w hw => sh_stat (As := [.int 7, .int 0, .int 8]) dc_Hall_sync_4 lm_Hall_checkNumber ln_Hall_39 wd_191 wd_49 rfl rfl (Nat.le_of_ble_eq_true rfl)) (ct_Hall_checkNumber_2 (x := 7) (lo := 0) (hi := 8) (by decide) (by decide)) ⟨(Nat.le_of_ble_eq_true rfl), (Nat.le_of_ble_eq_true rfl), (Nat.le_of_ble_eq_true rfl), (Nat.le_of_ble_eq_true rfl)⟩ ?_
  show sh_cW _ _ (_, _, []) K L _ _ _ _ _
  refine sh_cp (fun w Z k => sh_aload_n dc_Hall_sync_7 rfl rfl k) ?_
  refine sh_cp (fun w Z k => sh_iload_n dc_Hall_sync_8 rfl rfl k) ?_
  refine sh_ccall (fun w hw => sh_virt (As := [.int (nI s)]) dc_Hall_sync_9 lm_Hall_syncAt ln_Hall_73 wd_272 wd_2 rfl rfl (Nat.le_of_ble_eq_true rfl) (hw _ _ cw_o0) rfl) (ct_Hall_syncAt_2 (s := s) (by omega) (cw_nz hk_s (by decide))) ⟨(Nat.le_of_ble_eq_true rfl), (Nat.le_of_ble_eq_true rfl), (Nat.le_of_ble_eq_true rfl), (Nat.le_of_ble_eq_true rfl)⟩ ?_
  show sh_cW _ _ (_, _, [.ref (A (20 + s))]) K L _ _ _ _ _
  refine sh_cp (fun w Z k => sh_astore_n dc_Hall_sync_12 rfl (by decide) k) ?_
  refine sh_cp (fun w Z k => sh_iload_n dc_Hall_sync_13 rfl rfl k) ?_
  refine sh_cp (fun w Z k => sh_lookup (off := 52) (tgt := 66) dc_Hall_sync_14 (by decide) (by decide) (by decide) k) ?_
  refine sh_cp (fun w Z k => sh_aload_n dc_Hall_sync_66 rfl rfl k) ?_
  refine sh_cget (20 + s) 1 dc_Hall_sync_67 (cw_oa (by omega) hk_s) rfl (by decide) fl_Hall_206 rfl rfl rfl rfl ?_
  refine sh_cp (fun w Z k => sh_iload_n dc_Hall_sync_70 rfl rfl k) ?_
  refine sh_cp (fun w Z k => sh_iconst (v := 2) dc_Hall_sync_71 (by decide) k) ?_
  refine sh_cp (fun w Z k => sh_isub dc_Hall_sync_72 k) ?_
  refine sh_cti (show (7 - 2 : Int32) = 5 from by decide) ?_
  refine sh_ccall (fun w hw => sh_virt (As := [.int 5]) dc_Hall_sync_73 lm_Waiters_at ln_Hall_210 wd_690 wd_22 rfl rfl (Nat.le_of_ble_eq_true rfl) (hw _ _ (cw_ot (by omega) (cw_nz hk_s (by decide)))) rfl) (ct_Waiters_at_3 (s := s) (i := 5) (u18_17 := u18_73) (by omega) (cw_nz hk_s (by decide)) (by omega) c0_73 (by omega) c2_73) ⟨(Nat.le_of_ble_eq_true rfl), (Nat.le_of_ble_eq_true rfl), (Nat.le_of_ble_eq_true rfl), (Nat.le_of_ble_eq_true rfl)⟩ ?_
  show sh_cW _ _ (_, _, [.ref (A (10 + u18_73))]) K L _ _ _ _ _
  refine sh_cp (fun w Z k => sh_astore dc_Hall_sync_76 (by decide) k) ?_
  refine sh_cp (fun w Z k => sh_aload dc_Hall_sync_78 rfl k) ?_
  refine sh_cp (fun w Z k => sh_ifnonnull (tgt := 87) dc_Hall_sync_80 (by decide) k) ?_
  refine sh_cp (fun w Z k => sh_aload dc_Hall_sync_87 rfl k) ?_
  refine sh_cget (10 + u18_73) 0 dc_Hall_sync_89 (cw_ow (by omega)) rfl (by decide) fl_Hall_213 rfl rfl rfl rfl ?_
  exact sh_ce (fun w => sh_ireturn dc_Hall_sync_92 rfl rfl (by decide) (by decide))
theorem ct_Hall_sync_Latch_8_1 {A : Nat → Nat} {K : sh_II} {L : sh_DD} {s : Nat} (hs : s < 8) (hk_s : cw_cl (K 12 s) = 6) : sh_cM A md_Hall_sync [.ref (A 0), .int (nI s), .int 8] K L (.inl (some (.int (K 15 s)))) K L := by
  refine sh_cp (fun w Z k => sh_iload_n dc_Hall_sync_0 rfl rfl k) ?_
  refine sh_cp (fun w Z k => sh_iconst (v := 0) dc_Hall_sync_1 (by decide) k) ?_
  refine sh_cp (fun w Z k => sh_bipush (v := 8) dc_Hall_sync_2 (by decide) k) ?_
  refine sh_ccall (fun w hw => sh_stat (As := [.int 8, .int 0, .int 8]) dc_Hall_sync_4 lm_Hall_checkNumber ln_Hall_39 wd_191 wd_49 rfl rfl (Nat.le_of_ble_eq_true rfl)) (ct_Hall_checkNumber_2 (x := 8) (lo := 0) (hi := 8) (by decide) (by decide)) ⟨(Nat.le_of_ble_eq_true rfl), (Nat.le_of_ble_eq_true rfl), (Nat.le_of_ble_eq_true rfl), (Nat.le_of_ble_eq_true rfl)⟩ ?_
  show sh_cW _ _ (_, _, []) K L _ _ _ _ _
  refine sh_cp (fun w Z k => sh_aload_n dc_Hall_sync_7 rfl rfl k) ?_
  refine sh_cp (fun w Z k => sh_iload_n dc_Hall_sync_8 rfl rfl k) ?_
  refine sh_ccall (fun w hw => sh_virt (As := [.int (nI s)]) dc_Hall_sync_9 lm_Hall_syncAt ln_Hall_73 wd_272 wd_2 rfl rfl (Nat.le_of_ble_eq_true rfl) (hw _ _ cw_o0) rfl) (ct_Hall_syncAt_2 (s := s) (by omega) (cw_nz hk_s (by decide))) ⟨(Nat.le_of_ble_eq_true rfl), (Nat.le_of_ble_eq_true rfl), (Nat.le_of_ble_eq_true rfl), (Nat.le_of_ble_eq_true rfl)⟩ ?_
  show sh_cW _ _ (_, _, [.ref (A (20 + s))]) K L _ _ _ _ _
  refine sh_cp (fun w Z k => sh_astore_n dc_Hall_sync_12 rfl (by decide) k) ?_
  refine sh_cp (fun w Z k => sh_iload_n dc_Hall_sync_13 rfl rfl k) ?_
  refine sh_cp (fun w Z k => sh_lookup (off := 47) (tgt := 61) dc_Hall_sync_14 (by decide) (by decide) (by decide) k) ?_
  refine sh_cp (fun w Z k => sh_aload_n dc_Hall_sync_61 rfl rfl k) ?_
  refine sh_ccall (fun w hw => sh_virtU (As := []) dc_Hall_sync_62 lm_Latch_amount wd_819 wd_821 (Or.inr ⟨_, _, _, wd_820, wd_831⟩) ⟨by decide, by decide⟩ (by decide +kernel) wd_824 wd_823 rfl rfl (Nat.le_of_ble_eq_true rfl) (hw _ _ (cw_oa (by omega) hk_s)) rfl) (ct_Latch_amount_1 (s := s) (by omega) hk_s) ⟨(Nat.le_of_ble_eq_true rfl), (Nat.le_of_ble_eq_true rfl), (Nat.le_of_ble_eq_true rfl), (Nat.le_of_ble_eq_true rfl)⟩ ?_
  show sh_cW _ _ (_, _, [.int (K 15 s)]) K L _ _ _ _ _
  exact sh_ce (fun w => sh_ireturn dc_Hall_sync_65 rfl rfl (by decide) (by decide))
theorem ct_Hall_sync_Shared_0_1 {A : Nat → Nat} {K : sh_II} {L : sh_DD} {s : Nat} (hs : s < 8) (hk_s : cw_cl (K 12 s) = 7) : sh_cM A md_Hall_sync [.ref (A 0), .int (nI s), .int 0] K L (.inl (some (.int (K 12 s)))) K L := by
  refine sh_cp (fun w Z k => sh_iload_n dc_Hall_sync_0 rfl rfl k) ?_
  refine sh_cp (fun w Z k => sh_iconst (v := 0) dc_Hall_sync_1 (by decide) k) ?_
  refine sh_cp (fun w Z k => sh_bipush (v := 8) dc_Hall_sync_2 (by decide) k) ?_
  refine sh_ccall (fun w hw => sh_stat (As := [.int 0, .int 0, .int 8]) dc_Hall_sync_4 lm_Hall_checkNumber ln_Hall_39 wd_191 wd_49 rfl rfl (Nat.le_of_ble_eq_true rfl)) (ct_Hall_checkNumber_2 (x := 0) (lo := 0) (hi := 8) (by decide) (by decide)) ⟨(Nat.le_of_ble_eq_true rfl), (Nat.le_of_ble_eq_true rfl), (Nat.le_of_ble_eq_true rfl), (Nat.le_of_ble_eq_true rfl)⟩ ?_
  show sh_cW _ _ (_, _, []) K L _ _ _ _ _
  refine sh_cp (fun w Z k => sh_aload_n dc_Hall_sync_7 rfl rfl k) ?_
  refine sh_cp (fun w Z k => sh_iload_n dc_Hall_sync_8 rfl rfl k) ?_
  refine sh_ccall (fun w hw => sh_virt (As := [.int (nI s)]) dc_Hall_sync_9 lm_Hall_syncAt ln_Hall_73 wd_272 wd_2 rfl rfl (Nat.le_of_ble_eq_true rfl) (hw _ _ cw_o0) rfl) (ct_Hall_syncAt_2 (s := s) (by omega) (cw_nz hk_s (by decide))) ⟨(Nat.le_of_ble_eq_true rfl), (Nat.le_of_ble_eq_true rfl), (Nat.le_of_ble_eq_true rfl), (Nat.le_of_ble_eq_true rfl)⟩ ?_
  show sh_cW _ _ (_, _, [.ref (A (20 + s))]) K L _ _ _ _ _
  refine sh_cp (fun w Z k => sh_astore_n dc_Hall_sync_12 rfl (by decide) k) ?_
  refine sh_cp (fun w Z k => sh_iload_n dc_Hall_sync_13 rfl rfl k) ?_
  refine sh_cp (fun w Z k => sh_lookup (off := 34) (tgt := 48) dc_Hall_sync_14 (by decide) (by decide) (by decide) k) ?_
  refine sh_cp (fun w Z k => sh_aload_n dc_Hall_sync_48 rfl rfl k) ?_
  refine sh_cget (20 + s) 0 dc_Hall_sync_49 (cw_oh (by omega) hk_s) rfl (by decide) fl_Hall_203 rfl rfl rfl rfl ?_
  exact sh_ce (fun w => sh_ireturn dc_Hall_sync_52 rfl rfl (by decide) (by decide))
theorem ct_Hall_sync_Shared_1_1 {A : Nat → Nat} {K : sh_II} {L : sh_DD} {s : Nat} (hs : s < 8) (hk_s : cw_cl (K 12 s) = 7) : sh_cM A md_Hall_sync [.ref (A 0), .int (nI s), .int 1] K L (.inl (some (.int (K 19 s)))) K L := by
  refine sh_cp (fun w Z k => sh_iload_n dc_Hall_sync_0 rfl rfl k) ?_
  refine sh_cp (fun w Z k => sh_iconst (v := 0) dc_Hall_sync_1 (by decide) k) ?_
  refine sh_cp (fun w Z k => sh_bipush (v := 8) dc_Hall_sync_2 (by decide) k) ?_
  refine sh_ccall (fun w hw => sh_stat (As := [.int 1, .int 0, .int 8]) dc_Hall_sync_4 lm_Hall_checkNumber ln_Hall_39 wd_191 wd_49 rfl rfl (Nat.le_of_ble_eq_true rfl)) (ct_Hall_checkNumber_2 (x := 1) (lo := 0) (hi := 8) (by decide) (by decide)) ⟨(Nat.le_of_ble_eq_true rfl), (Nat.le_of_ble_eq_true rfl), (Nat.le_of_ble_eq_true rfl), (Nat.le_of_ble_eq_true rfl)⟩ ?_
  show sh_cW _ _ (_, _, []) K L _ _ _ _ _
  refine sh_cp (fun w Z k => sh_aload_n dc_Hall_sync_7 rfl rfl k) ?_
  refine sh_cp (fun w Z k => sh_iload_n dc_Hall_sync_8 rfl rfl k) ?_
  refine sh_ccall (fun w hw => sh_virt (As := [.int (nI s)]) dc_Hall_sync_9 lm_Hall_syncAt ln_Hall_73 wd_272 wd_2 rfl rfl (Nat.le_of_ble_eq_true rfl) (hw _ _ cw_o0) rfl) (ct_Hall_syncAt_2 (s := s) (by omega) (cw_nz hk_s (by decide))) ⟨(Nat.le_of_ble_eq_true rfl), (Nat.le_of_ble_eq_true rfl), (Nat.le_of_ble_eq_true rfl), (Nat.le_of_ble_eq_true rfl)⟩ ?_
  show sh_cW _ _ (_, _, [.ref (A (20 + s))]) K L _ _ _ _ _
  refine sh_cp (fun w Z k => sh_astore_n dc_Hall_sync_12 rfl (by decide) k) ?_
  refine sh_cp (fun w Z k => sh_iload_n dc_Hall_sync_13 rfl rfl k) ?_
  refine sh_cp (fun w Z k => sh_lookup (off := 39) (tgt := 53) dc_Hall_sync_14 (by decide) (by decide) (by decide) k) ?_
  refine sh_cp (fun w Z k => sh_aload_n dc_Hall_sync_53 rfl rfl k) ?_
  refine sh_cget (20 + s) 1 dc_Hall_sync_54 (cw_oh (by omega) hk_s) rfl (by decide) fl_Hall_206 rfl rfl rfl rfl ?_
  refine sh_ccall (fun w hw => sh_virt (As := []) dc_Hall_sync_57 lm_Waiters_size ln_Hall_134 wd_552 wd_12 rfl rfl (Nat.le_of_ble_eq_true rfl) (hw _ _ (cw_ot (by omega) (cw_nz hk_s (by decide)))) rfl) (ct_Waiters_size_1 (s := s) (by omega) (cw_nz hk_s (by decide))) ⟨(Nat.le_of_ble_eq_true rfl), (Nat.le_of_ble_eq_true rfl), (Nat.le_of_ble_eq_true rfl), (Nat.le_of_ble_eq_true rfl)⟩ ?_
  show sh_cW _ _ (_, _, [.int (K 19 s)]) K L _ _ _ _ _
  exact sh_ce (fun w => sh_ireturn dc_Hall_sync_60 rfl rfl (by decide) (by decide))
theorem ct_Hall_sync_Shared_2_1 {A : Nat → Nat} {K : sh_II} {L : sh_DD} {s : Nat} (hs : s < 8) (hk_s : cw_cl (K 12 s) = 7) (c0_73 : (K 19 s) ≤ 0) : sh_cM A md_Hall_sync [.ref (A 0), .int (nI s), .int 2] K L (.inl (some (.int (-1)))) K L := by
  refine sh_cp (fun w Z k => sh_iload_n dc_Hall_sync_0 rfl rfl k) ?_
  refine sh_cp (fun w Z k => sh_iconst (v := 0) dc_Hall_sync_1 (by decide) k) ?_
  refine sh_cp (fun w Z k => sh_bipush (v := 8) dc_Hall_sync_2 (by decide) k) ?_
  refine sh_ccall (fun w hw => sh_stat (As := [.int 2, .int 0, .int 8]) dc_Hall_sync_4 lm_Hall_checkNumber ln_Hall_39 wd_191 wd_49 rfl rfl (Nat.le_of_ble_eq_true rfl)) (ct_Hall_checkNumber_2 (x := 2) (lo := 0) (hi := 8) (by decide) (by decide)) ⟨(Nat.le_of_ble_eq_true rfl), (Nat.le_of_ble_eq_true rfl), (Nat.le_of_ble_eq_true rfl), (Nat.le_of_ble_eq_true rfl)⟩ ?_
  show sh_cW _ _ (_, _, []) K L _ _ _ _ _
  refine sh_cp (fun w Z k => sh_aload_n dc_Hall_sync_7 rfl rfl k) ?_
  refine sh_cp (fun w Z k => sh_iload_n dc_Hall_sync_8 rfl rfl k) ?_
  refine sh_ccall (fun w hw => sh_virt (As := [.int (nI s)]) dc_Hall_sync_9 lm_Hall_syncAt ln_Hall_73 wd_272 wd_2 rfl rfl (Nat.le_of_ble_eq_true rfl) (hw _ _ cw_o0) rfl) (ct_Hall_syncAt_2 (s := s) (by omega) (cw_nz hk_s (by decide))) ⟨(Nat.le_of_ble_eq_true rfl), (Nat.le_of_ble_eq_true rfl), (Nat.le_of_ble_eq_true rfl), (Nat.le_of_ble_eq_true rfl)⟩ ?_
  show sh_cW _ _ (_, _, [.ref (A (20 + s))]) K L _ _ _ _ _
  refine sh_cp (fun w Z k => sh_astore_n dc_Hall_sync_12 rfl (by decide) k) ?_
  refine sh_cp (fun w Z k => sh_iload_n dc_Hall_sync_13 rfl rfl k) ?_
  refine sh_cp (fun w Z k => sh_lookup (off := 52) (tgt := 66) dc_Hall_sync_14 (by decide) (by decide) (by decide) k) ?_
  refine sh_cp (fun w Z k => sh_aload_n dc_Hall_sync_66 rfl rfl k) ?_
  refine sh_cget (20 + s) 1 dc_Hall_sync_67 (cw_oh (by omega) hk_s) rfl (by decide) fl_Hall_206 rfl rfl rfl rfl ?_
  refine sh_cp (fun w Z k => sh_iload_n dc_Hall_sync_70 rfl rfl k) ?_
  refine sh_cp (fun w Z k => sh_iconst (v := 2) dc_Hall_sync_71 (by decide) k) ?_
  refine sh_cp (fun w Z k => sh_isub dc_Hall_sync_72 k) ?_
  refine sh_cti (show (2 - 2 : Int32) = 0 from by decide) ?_
  refine sh_ccall (fun w hw => sh_virt (As := [.int 0]) dc_Hall_sync_73 lm_Waiters_at ln_Hall_210 wd_690 wd_22 rfl rfl (Nat.le_of_ble_eq_true rfl) (hw _ _ (cw_ot (by omega) (cw_nz hk_s (by decide)))) rfl) (ct_Waiters_at_0_1 (s := s) (by omega) (cw_nz hk_s (by decide)) c0_73) ⟨(Nat.le_of_ble_eq_true rfl), (Nat.le_of_ble_eq_true rfl), (Nat.le_of_ble_eq_true rfl), (Nat.le_of_ble_eq_true rfl)⟩ ?_
  show sh_cW _ _ (_, _, [.null]) K L _ _ _ _ _
  refine sh_cp (fun w Z k => sh_astoreN dc_Hall_sync_76 (by decide) k) ?_
  refine sh_cp (fun w Z k => sh_aloadq (x := none) dc_Hall_sync_78 rfl k) ?_
  show sh_cW _ _ (_, _, .null :: _) _ _ _ _ _ _ _
  refine sh_cp (fun w Z k => sh_ifnonnullN dc_Hall_sync_80 k) ?_
  refine sh_cp (fun w Z k => sh_iconst (v := (-1)) dc_Hall_sync_83 (by decide) k) ?_
  refine sh_cp (fun w Z k => sh_goto_ (tgt := 92) dc_Hall_sync_84 (by decide) k) ?_
  exact sh_ce (fun w => sh_ireturn dc_Hall_sync_92 rfl rfl (by decide) (by decide))
theorem ct_Hall_sync_Shared_2_2 {A : Nat → Nat} {K : sh_II} {L : sh_DD} {s : Nat} (hs : s < 8) (hk_s : cw_cl (K 12 s) = 7) (c0_73 : ¬ (K 19 s) ≤ 0) (c1_73 : (K 18 (6 * s + 0)) = -1) : sh_cM A md_Hall_sync [.ref (A 0), .int (nI s), .int 2] K L (.inl (some (.int (-1)))) K L := by
  refine sh_cp (fun w Z k => sh_iload_n dc_Hall_sync_0 rfl rfl k) ?_
  refine sh_cp (fun w Z k => sh_iconst (v := 0) dc_Hall_sync_1 (by decide) k) ?_
  refine sh_cp (fun w Z k => sh_bipush (v := 8) dc_Hall_sync_2 (by decide) k) ?_
  refine sh_ccall (fun w hw => sh_stat (As := [.int 2, .int 0, .int 8]) dc_Hall_sync_4 lm_Hall_checkNumber ln_Hall_39 wd_191 wd_49 rfl rfl (Nat.le_of_ble_eq_true rfl)) (ct_Hall_checkNumber_2 (x := 2) (lo := 0) (hi := 8) (by decide) (by decide)) ⟨(Nat.le_of_ble_eq_true rfl), (Nat.le_of_ble_eq_true rfl), (Nat.le_of_ble_eq_true rfl), (Nat.le_of_ble_eq_true rfl)⟩ ?_
  show sh_cW _ _ (_, _, []) K L _ _ _ _ _
  refine sh_cp (fun w Z k => sh_aload_n dc_Hall_sync_7 rfl rfl k) ?_
  refine sh_cp (fun w Z k => sh_iload_n dc_Hall_sync_8 rfl rfl k) ?_
  refine sh_ccall (fun w hw => sh_virt (As := [.int (nI s)]) dc_Hall_sync_9 lm_Hall_syncAt ln_Hall_73 wd_272 wd_2 rfl rfl (Nat.le_of_ble_eq_true rfl) (hw _ _ cw_o0) rfl) (ct_Hall_syncAt_2 (s := s) (by omega) (cw_nz hk_s (by decide))) ⟨(Nat.le_of_ble_eq_true rfl), (Nat.le_of_ble_eq_true rfl), (Nat.le_of_ble_eq_true rfl), (Nat.le_of_ble_eq_true rfl)⟩ ?_
  show sh_cW _ _ (_, _, [.ref (A (20 + s))]) K L _ _ _ _ _
  refine sh_cp (fun w Z k => sh_astore_n dc_Hall_sync_12 rfl (by decide) k) ?_
  refine sh_cp (fun w Z k => sh_iload_n dc_Hall_sync_13 rfl rfl k) ?_
  refine sh_cp (fun w Z k => sh_lookup (off := 52) (tgt := 66) dc_Hall_sync_14 (by decide) (by decide) (by decide) k) ?_
  refine sh_cp (fun w Z k => sh_aload_n dc_Hall_sync_66 rfl rfl k) ?_
  refine sh_cget (20 + s) 1 dc_Hall_sync_67 (cw_oh (by omega) hk_s) rfl (by decide) fl_Hall_206 rfl rfl rfl rfl ?_
  refine sh_cp (fun w Z k => sh_iload_n dc_Hall_sync_70 rfl rfl k) ?_
  refine sh_cp (fun w Z k => sh_iconst (v := 2) dc_Hall_sync_71 (by decide) k) ?_
  refine sh_cp (fun w Z k => sh_isub dc_Hall_sync_72 k) ?_
  refine sh_cti (show (2 - 2 : Int32) = 0 from by decide) ?_
  refine sh_ccall (fun w hw => sh_virt (As := [.int 0]) dc_Hall_sync_73 lm_Waiters_at ln_Hall_210 wd_690 wd_22 rfl rfl (Nat.le_of_ble_eq_true rfl) (hw _ _ (cw_ot (by omega) (cw_nz hk_s (by decide)))) rfl) (ct_Waiters_at_0_2 (s := s) (by omega) (cw_nz hk_s (by decide)) c0_73 c1_73) ⟨(Nat.le_of_ble_eq_true rfl), (Nat.le_of_ble_eq_true rfl), (Nat.le_of_ble_eq_true rfl), (Nat.le_of_ble_eq_true rfl)⟩ ?_
  show sh_cW _ _ (_, _, [.null]) K L _ _ _ _ _
  refine sh_cp (fun w Z k => sh_astoreN dc_Hall_sync_76 (by decide) k) ?_
  refine sh_cp (fun w Z k => sh_aloadq (x := none) dc_Hall_sync_78 rfl k) ?_
  show sh_cW _ _ (_, _, .null :: _) _ _ _ _ _ _ _
  refine sh_cp (fun w Z k => sh_ifnonnullN dc_Hall_sync_80 k) ?_
  refine sh_cp (fun w Z k => sh_iconst (v := (-1)) dc_Hall_sync_83 (by decide) k) ?_
  refine sh_cp (fun w Z k => sh_goto_ (tgt := 92) dc_Hall_sync_84 (by decide) k) ?_
  exact sh_ce (fun w => sh_ireturn dc_Hall_sync_92 rfl rfl (by decide) (by decide))
theorem ct_Hall_sync_Shared_2_3 {A : Nat → Nat} {K : sh_II} {L : sh_DD} {s : Nat} {u18_73 : Nat} (hs : s < 8) (hk_s : cw_cl (K 12 s) = 7) (c0_73 : ¬ (K 19 s) ≤ 0) (hu18_73 : u18_73 < 6) (c2_73 : (K 18 (6 * s + 0)) = nI u18_73) : sh_cM A md_Hall_sync [.ref (A 0), .int (nI s), .int 2] K L (.inl (some (.int (nI u18_73)))) K L := by
  refine sh_cp (fun w Z k => sh_iload_n dc_Hall_sync_0 rfl rfl k) ?_
  refine sh_cp (fun w Z k => sh_iconst (v := 0) dc_Hall_sync_1 (by decide) k) ?_
  refine sh_cp (fun w Z k => sh_bipush (v := 8) dc_Hall_sync_2 (by decide) k) ?_
  refine sh_ccall (fun w hw => sh_stat (As := [.int 2, .int 0, .int 8]) dc_Hall_sync_4 lm_Hall_checkNumber ln_Hall_39 wd_191 wd_49 rfl rfl (Nat.le_of_ble_eq_true rfl)) (ct_Hall_checkNumber_2 (x := 2) (lo := 0) (hi := 8) (by decide) (by decide)) ⟨(Nat.le_of_ble_eq_true rfl), (Nat.le_of_ble_eq_true rfl), (Nat.le_of_ble_eq_true rfl), (Nat.le_of_ble_eq_true rfl)⟩ ?_
  show sh_cW _ _ (_, _, []) K L _ _ _ _ _
  refine sh_cp (fun w Z k => sh_aload_n dc_Hall_sync_7 rfl rfl k) ?_
  refine sh_cp (fun w Z k => sh_iload_n dc_Hall_sync_8 rfl rfl k) ?_
  refine sh_ccall (fun w hw => sh_virt (As := [.int (nI s)]) dc_Hall_sync_9 lm_Hall_syncAt ln_Hall_73 wd_272 wd_2 rfl rfl (Nat.le_of_ble_eq_true rfl) (hw _ _ cw_o0) rfl) (ct_Hall_syncAt_2 (s := s) (by omega) (cw_nz hk_s (by decide))) ⟨(Nat.le_of_ble_eq_true rfl), (Nat.le_of_ble_eq_true rfl), (Nat.le_of_ble_eq_true rfl), (Nat.le_of_ble_eq_true rfl)⟩ ?_
  show sh_cW _ _ (_, _, [.ref (A (20 + s))]) K L _ _ _ _ _
  refine sh_cp (fun w Z k => sh_astore_n dc_Hall_sync_12 rfl (by decide) k) ?_
  refine sh_cp (fun w Z k => sh_iload_n dc_Hall_sync_13 rfl rfl k) ?_
  refine sh_cp (fun w Z k => sh_lookup (off := 52) (tgt := 66) dc_Hall_sync_14 (by decide) (by decide) (by decide) k) ?_
  refine sh_cp (fun w Z k => sh_aload_n dc_Hall_sync_66 rfl rfl k) ?_
  refine sh_cget (20 + s) 1 dc_Hall_sync_67 (cw_oh (by omega) hk_s) rfl (by decide) fl_Hall_206 rfl rfl rfl rfl ?_
  refine sh_cp (fun w Z k => sh_iload_n dc_Hall_sync_70 rfl rfl k) ?_
  refine sh_cp (fun w Z k => sh_iconst (v := 2) dc_Hall_sync_71 (by decide) k) ?_
  refine sh_cp (fun w Z k => sh_isub dc_Hall_sync_72 k) ?_
  refine sh_cti (show (2 - 2 : Int32) = 0 from by decide) ?_
  refine sh_ccall (fun w hw => sh_virt (As := [.int 0]) dc_Hall_sync_73 lm_Waiters_at ln_Hall_210 wd_690 wd_22 rfl rfl (Nat.le_of_ble_eq_true rfl) (hw _ _ (cw_ot (by omega) (cw_nz hk_s (by decide)))) rfl) (ct_Waiters_at_0_3 (s := s) (u18_17 := u18_73) (by omega) (cw_nz hk_s (by decide)) c0_73 (by omega) c2_73) ⟨(Nat.le_of_ble_eq_true rfl), (Nat.le_of_ble_eq_true rfl), (Nat.le_of_ble_eq_true rfl), (Nat.le_of_ble_eq_true rfl)⟩ ?_
  show sh_cW _ _ (_, _, [.ref (A (10 + u18_73))]) K L _ _ _ _ _
  refine sh_cp (fun w Z k => sh_astore dc_Hall_sync_76 (by decide) k) ?_
  refine sh_cp (fun w Z k => sh_aload dc_Hall_sync_78 rfl k) ?_
  refine sh_cp (fun w Z k => sh_ifnonnull (tgt := 87) dc_Hall_sync_80 (by decide) k) ?_
  refine sh_cp (fun w Z k => sh_aload dc_Hall_sync_87 rfl k) ?_
  refine sh_cget (10 + u18_73) 0 dc_Hall_sync_89 (cw_ow (by omega)) rfl (by decide) fl_Hall_213 rfl rfl rfl rfl ?_
  exact sh_ce (fun w => sh_ireturn dc_Hall_sync_92 rfl rfl (by decide) (by decide))
theorem ct_Hall_sync_Shared_3_1 {A : Nat → Nat} {K : sh_II} {L : sh_DD} {s : Nat} (hs : s < 8) (hk_s : cw_cl (K 12 s) = 7) (c0_73 : (K 19 s) ≤ (nI 1)) : sh_cM A md_Hall_sync [.ref (A 0), .int (nI s), .int 3] K L (.inl (some (.int (-1)))) K L := by
  refine sh_cp (fun w Z k => sh_iload_n dc_Hall_sync_0 rfl rfl k) ?_
  refine sh_cp (fun w Z k => sh_iconst (v := 0) dc_Hall_sync_1 (by decide) k) ?_
  refine sh_cp (fun w Z k => sh_bipush (v := 8) dc_Hall_sync_2 (by decide) k) ?_
  refine sh_ccall (fun w hw => sh_stat (As := [.int 3, .int 0, .int 8]) dc_Hall_sync_4 lm_Hall_checkNumber ln_Hall_39 wd_191 wd_49 rfl rfl (Nat.le_of_ble_eq_true rfl)) (ct_Hall_checkNumber_2 (x := 3) (lo := 0) (hi := 8) (by decide) (by decide)) ⟨(Nat.le_of_ble_eq_true rfl), (Nat.le_of_ble_eq_true rfl), (Nat.le_of_ble_eq_true rfl), (Nat.le_of_ble_eq_true rfl)⟩ ?_
  show sh_cW _ _ (_, _, []) K L _ _ _ _ _
  refine sh_cp (fun w Z k => sh_aload_n dc_Hall_sync_7 rfl rfl k) ?_
  refine sh_cp (fun w Z k => sh_iload_n dc_Hall_sync_8 rfl rfl k) ?_
  refine sh_ccall (fun w hw => sh_virt (As := [.int (nI s)]) dc_Hall_sync_9 lm_Hall_syncAt ln_Hall_73 wd_272 wd_2 rfl rfl (Nat.le_of_ble_eq_true rfl) (hw _ _ cw_o0) rfl) (ct_Hall_syncAt_2 (s := s) (by omega) (cw_nz hk_s (by decide))) ⟨(Nat.le_of_ble_eq_true rfl), (Nat.le_of_ble_eq_true rfl), (Nat.le_of_ble_eq_true rfl), (Nat.le_of_ble_eq_true rfl)⟩ ?_
  show sh_cW _ _ (_, _, [.ref (A (20 + s))]) K L _ _ _ _ _
  refine sh_cp (fun w Z k => sh_astore_n dc_Hall_sync_12 rfl (by decide) k) ?_
  refine sh_cp (fun w Z k => sh_iload_n dc_Hall_sync_13 rfl rfl k) ?_
  refine sh_cp (fun w Z k => sh_lookup (off := 52) (tgt := 66) dc_Hall_sync_14 (by decide) (by decide) (by decide) k) ?_
  refine sh_cp (fun w Z k => sh_aload_n dc_Hall_sync_66 rfl rfl k) ?_
  refine sh_cget (20 + s) 1 dc_Hall_sync_67 (cw_oh (by omega) hk_s) rfl (by decide) fl_Hall_206 rfl rfl rfl rfl ?_
  refine sh_cp (fun w Z k => sh_iload_n dc_Hall_sync_70 rfl rfl k) ?_
  refine sh_cp (fun w Z k => sh_iconst (v := 2) dc_Hall_sync_71 (by decide) k) ?_
  refine sh_cp (fun w Z k => sh_isub dc_Hall_sync_72 k) ?_
  refine sh_cti (show (3 - 2 : Int32) = 1 from by decide) ?_
  refine sh_ccall (fun w hw => sh_virt (As := [.int 1]) dc_Hall_sync_73 lm_Waiters_at ln_Hall_210 wd_690 wd_22 rfl rfl (Nat.le_of_ble_eq_true rfl) (hw _ _ (cw_ot (by omega) (cw_nz hk_s (by decide)))) rfl) (ct_Waiters_at_1 (s := s) (i := 1) (by omega) (cw_nz hk_s (by decide)) (by omega) c0_73) ⟨(Nat.le_of_ble_eq_true rfl), (Nat.le_of_ble_eq_true rfl), (Nat.le_of_ble_eq_true rfl), (Nat.le_of_ble_eq_true rfl)⟩ ?_
  show sh_cW _ _ (_, _, [.null]) K L _ _ _ _ _
  refine sh_cp (fun w Z k => sh_astoreN dc_Hall_sync_76 (by decide) k) ?_
  refine sh_cp (fun w Z k => sh_aloadq (x := none) dc_Hall_sync_78 rfl k) ?_
  show sh_cW _ _ (_, _, .null :: _) _ _ _ _ _ _ _
  refine sh_cp (fun w Z k => sh_ifnonnullN dc_Hall_sync_80 k) ?_
  refine sh_cp (fun w Z k => sh_iconst (v := (-1)) dc_Hall_sync_83 (by decide) k) ?_
  refine sh_cp (fun w Z k => sh_goto_ (tgt := 92) dc_Hall_sync_84 (by decide) k) ?_
  exact sh_ce (fun w => sh_ireturn dc_Hall_sync_92 rfl rfl (by decide) (by decide))
theorem ct_Hall_sync_Shared_3_2 {A : Nat → Nat} {K : sh_II} {L : sh_DD} {s : Nat} (hs : s < 8) (hk_s : cw_cl (K 12 s) = 7) (c0_73 : ¬ (K 19 s) ≤ (nI 1)) (c1_73 : (K 18 (6 * s + 1)) = -1) : sh_cM A md_Hall_sync [.ref (A 0), .int (nI s), .int 3] K L (.inl (some (.int (-1)))) K L := by
  refine sh_cp (fun w Z k => sh_iload_n dc_Hall_sync_0 rfl rfl k) ?_
  refine sh_cp (fun w Z k => sh_iconst (v := 0) dc_Hall_sync_1 (by decide) k) ?_
  refine sh_cp (fun w Z k => sh_bipush (v := 8) dc_Hall_sync_2 (by decide) k) ?_
  refine sh_ccall (fun w hw => sh_stat (As := [.int 3, .int 0, .int 8]) dc_Hall_sync_4 lm_Hall_checkNumber ln_Hall_39 wd_191 wd_49 rfl rfl (Nat.le_of_ble_eq_true rfl)) (ct_Hall_checkNumber_2 (x := 3) (lo := 0) (hi := 8) (by decide) (by decide)) ⟨(Nat.le_of_ble_eq_true rfl), (Nat.le_of_ble_eq_true rfl), (Nat.le_of_ble_eq_true rfl), (Nat.le_of_ble_eq_true rfl)⟩ ?_
  show sh_cW _ _ (_, _, []) K L _ _ _ _ _
  refine sh_cp (fun w Z k => sh_aload_n dc_Hall_sync_7 rfl rfl k) ?_
  refine sh_cp (fun w Z k => sh_iload_n dc_Hall_sync_8 rfl rfl k) ?_
  refine sh_ccall (fun w hw => sh_virt (As := [.int (nI s)]) dc_Hall_sync_9 lm_Hall_syncAt ln_Hall_73 wd_272 wd_2 rfl rfl (Nat.le_of_ble_eq_true rfl) (hw _ _ cw_o0) rfl) (ct_Hall_syncAt_2 (s := s) (by omega) (cw_nz hk_s (by decide))) ⟨(Nat.le_of_ble_eq_true rfl), (Nat.le_of_ble_eq_true rfl), (Nat.le_of_ble_eq_true rfl), (Nat.le_of_ble_eq_true rfl)⟩ ?_
  show sh_cW _ _ (_, _, [.ref (A (20 + s))]) K L _ _ _ _ _
  refine sh_cp (fun w Z k => sh_astore_n dc_Hall_sync_12 rfl (by decide) k) ?_
  refine sh_cp (fun w Z k => sh_iload_n dc_Hall_sync_13 rfl rfl k) ?_
  refine sh_cp (fun w Z k => sh_lookup (off := 52) (tgt := 66) dc_Hall_sync_14 (by decide) (by decide) (by decide) k) ?_
  refine sh_cp (fun w Z k => sh_aload_n dc_Hall_sync_66 rfl rfl k) ?_
  refine sh_cget (20 + s) 1 dc_Hall_sync_67 (cw_oh (by omega) hk_s) rfl (by decide) fl_Hall_206 rfl rfl rfl rfl ?_
  refine sh_cp (fun w Z k => sh_iload_n dc_Hall_sync_70 rfl rfl k) ?_
  refine sh_cp (fun w Z k => sh_iconst (v := 2) dc_Hall_sync_71 (by decide) k) ?_
  refine sh_cp (fun w Z k => sh_isub dc_Hall_sync_72 k) ?_
  refine sh_cti (show (3 - 2 : Int32) = 1 from by decide) ?_
  refine sh_ccall (fun w hw => sh_virt (As := [.int 1]) dc_Hall_sync_73 lm_Waiters_at ln_Hall_210 wd_690 wd_22 rfl rfl (Nat.le_of_ble_eq_true rfl) (hw _ _ (cw_ot (by omega) (cw_nz hk_s (by decide)))) rfl) (ct_Waiters_at_2 (s := s) (i := 1) (by omega) (cw_nz hk_s (by decide)) (by omega) c0_73 c1_73) ⟨(Nat.le_of_ble_eq_true rfl), (Nat.le_of_ble_eq_true rfl), (Nat.le_of_ble_eq_true rfl), (Nat.le_of_ble_eq_true rfl)⟩ ?_
  show sh_cW _ _ (_, _, [.null]) K L _ _ _ _ _
  refine sh_cp (fun w Z k => sh_astoreN dc_Hall_sync_76 (by decide) k) ?_
  refine sh_cp (fun w Z k => sh_aloadq (x := none) dc_Hall_sync_78 rfl k) ?_
  show sh_cW _ _ (_, _, .null :: _) _ _ _ _ _ _ _
  refine sh_cp (fun w Z k => sh_ifnonnullN dc_Hall_sync_80 k) ?_
  refine sh_cp (fun w Z k => sh_iconst (v := (-1)) dc_Hall_sync_83 (by decide) k) ?_
  refine sh_cp (fun w Z k => sh_goto_ (tgt := 92) dc_Hall_sync_84 (by decide) k) ?_
  exact sh_ce (fun w => sh_ireturn dc_Hall_sync_92 rfl rfl (by decide) (by decide))
theorem ct_Hall_sync_Shared_3_3 {A : Nat → Nat} {K : sh_II} {L : sh_DD} {s : Nat} {u18_73 : Nat} (hs : s < 8) (hk_s : cw_cl (K 12 s) = 7) (c0_73 : ¬ (K 19 s) ≤ (nI 1)) (hu18_73 : u18_73 < 6) (c2_73 : (K 18 (6 * s + 1)) = nI u18_73) : sh_cM A md_Hall_sync [.ref (A 0), .int (nI s), .int 3] K L (.inl (some (.int (nI u18_73)))) K L := by
  refine sh_cp (fun w Z k => sh_iload_n dc_Hall_sync_0 rfl rfl k) ?_
  refine sh_cp (fun w Z k => sh_iconst (v := 0) dc_Hall_sync_1 (by decide) k) ?_
  refine sh_cp (fun w Z k => sh_bipush (v := 8) dc_Hall_sync_2 (by decide) k) ?_
  refine sh_ccall (fun w hw => sh_stat (As := [.int 3, .int 0, .int 8]) dc_Hall_sync_4 lm_Hall_checkNumber ln_Hall_39 wd_191 wd_49 rfl rfl (Nat.le_of_ble_eq_true rfl)) (ct_Hall_checkNumber_2 (x := 3) (lo := 0) (hi := 8) (by decide) (by decide)) ⟨(Nat.le_of_ble_eq_true rfl), (Nat.le_of_ble_eq_true rfl), (Nat.le_of_ble_eq_true rfl), (Nat.le_of_ble_eq_true rfl)⟩ ?_
  show sh_cW _ _ (_, _, []) K L _ _ _ _ _
  refine sh_cp (fun w Z k => sh_aload_n dc_Hall_sync_7 rfl rfl k) ?_
  refine sh_cp (fun w Z k => sh_iload_n dc_Hall_sync_8 rfl rfl k) ?_
  refine sh_ccall (fun w hw => sh_virt (As := [.int (nI s)]) dc_Hall_sync_9 lm_Hall_syncAt ln_Hall_73 wd_272 wd_2 rfl rfl (Nat.le_of_ble_eq_true rfl) (hw _ _ cw_o0) rfl) (ct_Hall_syncAt_2 (s := s) (by omega) (cw_nz hk_s (by decide))) ⟨(Nat.le_of_ble_eq_true rfl), (Nat.le_of_ble_eq_true rfl), (Nat.le_of_ble_eq_true rfl), (Nat.le_of_ble_eq_true rfl)⟩ ?_
  show sh_cW _ _ (_, _, [.ref (A (20 + s))]) K L _ _ _ _ _
  refine sh_cp (fun w Z k => sh_astore_n dc_Hall_sync_12 rfl (by decide) k) ?_
  refine sh_cp (fun w Z k => sh_iload_n dc_Hall_sync_13 rfl rfl k) ?_
  refine sh_cp (fun w Z k => sh_lookup (off := 52) (tgt := 66) dc_Hall_sync_14 (by decide) (by decide) (by decide) k) ?_
  refine sh_cp (fun w Z k => sh_aload_n dc_Hall_sync_66 rfl rfl k) ?_
  refine sh_cget (20 + s) 1 dc_Hall_sync_67 (cw_oh (by omega) hk_s) rfl (by decide) fl_Hall_206 rfl rfl rfl rfl ?_
  refine sh_cp (fun w Z k => sh_iload_n dc_Hall_sync_70 rfl rfl k) ?_
  refine sh_cp (fun w Z k => sh_iconst (v := 2) dc_Hall_sync_71 (by decide) k) ?_
  refine sh_cp (fun w Z k => sh_isub dc_Hall_sync_72 k) ?_
  refine sh_cti (show (3 - 2 : Int32) = 1 from by decide) ?_
  refine sh_ccall (fun w hw => sh_virt (As := [.int 1]) dc_Hall_sync_73 lm_Waiters_at ln_Hall_210 wd_690 wd_22 rfl rfl (Nat.le_of_ble_eq_true rfl) (hw _ _ (cw_ot (by omega) (cw_nz hk_s (by decide)))) rfl) (ct_Waiters_at_3 (s := s) (i := 1) (u18_17 := u18_73) (by omega) (cw_nz hk_s (by decide)) (by omega) c0_73 (by omega) c2_73) ⟨(Nat.le_of_ble_eq_true rfl), (Nat.le_of_ble_eq_true rfl), (Nat.le_of_ble_eq_true rfl), (Nat.le_of_ble_eq_true rfl)⟩ ?_
  show sh_cW _ _ (_, _, [.ref (A (10 + u18_73))]) K L _ _ _ _ _
  refine sh_cp (fun w Z k => sh_astore dc_Hall_sync_76 (by decide) k) ?_
  refine sh_cp (fun w Z k => sh_aload dc_Hall_sync_78 rfl k) ?_
  refine sh_cp (fun w Z k => sh_ifnonnull (tgt := 87) dc_Hall_sync_80 (by decide) k) ?_
  refine sh_cp (fun w Z k => sh_aload dc_Hall_sync_87 rfl k) ?_
  refine sh_cget (10 + u18_73) 0 dc_Hall_sync_89 (cw_ow (by omega)) rfl (by decide) fl_Hall_213 rfl rfl rfl rfl ?_
  exact sh_ce (fun w => sh_ireturn dc_Hall_sync_92 rfl rfl (by decide) (by decide))
theorem ct_Hall_sync_Shared_4_1 {A : Nat → Nat} {K : sh_II} {L : sh_DD} {s : Nat} (hs : s < 8) (hk_s : cw_cl (K 12 s) = 7) (c0_73 : (K 19 s) ≤ (nI 2)) : sh_cM A md_Hall_sync [.ref (A 0), .int (nI s), .int 4] K L (.inl (some (.int (-1)))) K L := by
  refine sh_cp (fun w Z k => sh_iload_n dc_Hall_sync_0 rfl rfl k) ?_
  refine sh_cp (fun w Z k => sh_iconst (v := 0) dc_Hall_sync_1 (by decide) k) ?_
  refine sh_cp (fun w Z k => sh_bipush (v := 8) dc_Hall_sync_2 (by decide) k) ?_
  refine sh_ccall (fun w hw => sh_stat (As := [.int 4, .int 0, .int 8]) dc_Hall_sync_4 lm_Hall_checkNumber ln_Hall_39 wd_191 wd_49 rfl rfl (Nat.le_of_ble_eq_true rfl)) (ct_Hall_checkNumber_2 (x := 4) (lo := 0) (hi := 8) (by decide) (by decide)) ⟨(Nat.le_of_ble_eq_true rfl), (Nat.le_of_ble_eq_true rfl), (Nat.le_of_ble_eq_true rfl), (Nat.le_of_ble_eq_true rfl)⟩ ?_
  show sh_cW _ _ (_, _, []) K L _ _ _ _ _
  refine sh_cp (fun w Z k => sh_aload_n dc_Hall_sync_7 rfl rfl k) ?_
  refine sh_cp (fun w Z k => sh_iload_n dc_Hall_sync_8 rfl rfl k) ?_
  refine sh_ccall (fun w hw => sh_virt (As := [.int (nI s)]) dc_Hall_sync_9 lm_Hall_syncAt ln_Hall_73 wd_272 wd_2 rfl rfl (Nat.le_of_ble_eq_true rfl) (hw _ _ cw_o0) rfl) (ct_Hall_syncAt_2 (s := s) (by omega) (cw_nz hk_s (by decide))) ⟨(Nat.le_of_ble_eq_true rfl), (Nat.le_of_ble_eq_true rfl), (Nat.le_of_ble_eq_true rfl), (Nat.le_of_ble_eq_true rfl)⟩ ?_
  show sh_cW _ _ (_, _, [.ref (A (20 + s))]) K L _ _ _ _ _
  refine sh_cp (fun w Z k => sh_astore_n dc_Hall_sync_12 rfl (by decide) k) ?_
  refine sh_cp (fun w Z k => sh_iload_n dc_Hall_sync_13 rfl rfl k) ?_
  refine sh_cp (fun w Z k => sh_lookup (off := 52) (tgt := 66) dc_Hall_sync_14 (by decide) (by decide) (by decide) k) ?_
  refine sh_cp (fun w Z k => sh_aload_n dc_Hall_sync_66 rfl rfl k) ?_
  refine sh_cget (20 + s) 1 dc_Hall_sync_67 (cw_oh (by omega) hk_s) rfl (by decide) fl_Hall_206 rfl rfl rfl rfl ?_
  refine sh_cp (fun w Z k => sh_iload_n dc_Hall_sync_70 rfl rfl k) ?_
  refine sh_cp (fun w Z k => sh_iconst (v := 2) dc_Hall_sync_71 (by decide) k) ?_
  refine sh_cp (fun w Z k => sh_isub dc_Hall_sync_72 k) ?_
  refine sh_cti (show (4 - 2 : Int32) = 2 from by decide) ?_
  refine sh_ccall (fun w hw => sh_virt (As := [.int 2]) dc_Hall_sync_73 lm_Waiters_at ln_Hall_210 wd_690 wd_22 rfl rfl (Nat.le_of_ble_eq_true rfl) (hw _ _ (cw_ot (by omega) (cw_nz hk_s (by decide)))) rfl) (ct_Waiters_at_1 (s := s) (i := 2) (by omega) (cw_nz hk_s (by decide)) (by omega) c0_73) ⟨(Nat.le_of_ble_eq_true rfl), (Nat.le_of_ble_eq_true rfl), (Nat.le_of_ble_eq_true rfl), (Nat.le_of_ble_eq_true rfl)⟩ ?_
  show sh_cW _ _ (_, _, [.null]) K L _ _ _ _ _
  refine sh_cp (fun w Z k => sh_astoreN dc_Hall_sync_76 (by decide) k) ?_
  refine sh_cp (fun w Z k => sh_aloadq (x := none) dc_Hall_sync_78 rfl k) ?_
  show sh_cW _ _ (_, _, .null :: _) _ _ _ _ _ _ _
  refine sh_cp (fun w Z k => sh_ifnonnullN dc_Hall_sync_80 k) ?_
  refine sh_cp (fun w Z k => sh_iconst (v := (-1)) dc_Hall_sync_83 (by decide) k) ?_
  refine sh_cp (fun w Z k => sh_goto_ (tgt := 92) dc_Hall_sync_84 (by decide) k) ?_
  exact sh_ce (fun w => sh_ireturn dc_Hall_sync_92 rfl rfl (by decide) (by decide))
theorem ct_Hall_sync_Shared_4_2 {A : Nat → Nat} {K : sh_II} {L : sh_DD} {s : Nat} (hs : s < 8) (hk_s : cw_cl (K 12 s) = 7) (c0_73 : ¬ (K 19 s) ≤ (nI 2)) (c1_73 : (K 18 (6 * s + 2)) = -1) : sh_cM A md_Hall_sync [.ref (A 0), .int (nI s), .int 4] K L (.inl (some (.int (-1)))) K L := by
  refine sh_cp (fun w Z k => sh_iload_n dc_Hall_sync_0 rfl rfl k) ?_
  refine sh_cp (fun w Z k => sh_iconst (v := 0) dc_Hall_sync_1 (by decide) k) ?_
  refine sh_cp (fun w Z k => sh_bipush (v := 8) dc_Hall_sync_2 (by decide) k) ?_
  refine sh_ccall (fun w hw => sh_stat (As := [.int 4, .int 0, .int 8]) dc_Hall_sync_4 lm_Hall_checkNumber ln_Hall_39 wd_191 wd_49 rfl rfl (Nat.le_of_ble_eq_true rfl)) (ct_Hall_checkNumber_2 (x := 4) (lo := 0) (hi := 8) (by decide) (by decide)) ⟨(Nat.le_of_ble_eq_true rfl), (Nat.le_of_ble_eq_true rfl), (Nat.le_of_ble_eq_true rfl), (Nat.le_of_ble_eq_true rfl)⟩ ?_
  show sh_cW _ _ (_, _, []) K L _ _ _ _ _
  refine sh_cp (fun w Z k => sh_aload_n dc_Hall_sync_7 rfl rfl k) ?_
  refine sh_cp (fun w Z k => sh_iload_n dc_Hall_sync_8 rfl rfl k) ?_
  refine sh_ccall (fun w hw => sh_virt (As := [.int (nI s)]) dc_Hall_sync_9 lm_Hall_syncAt ln_Hall_73 wd_272 wd_2 rfl rfl (Nat.le_of_ble_eq_true rfl) (hw _ _ cw_o0) rfl) (ct_Hall_syncAt_2 (s := s) (by omega) (cw_nz hk_s (by decide))) ⟨(Nat.le_of_ble_eq_true rfl), (Nat.le_of_ble_eq_true rfl), (Nat.le_of_ble_eq_true rfl), (Nat.le_of_ble_eq_true rfl)⟩ ?_
  show sh_cW _ _ (_, _, [.ref (A (20 + s))]) K L _ _ _ _ _
  refine sh_cp (fun w Z k => sh_astore_n dc_Hall_sync_12 rfl (by decide) k) ?_
  refine sh_cp (fun w Z k => sh_iload_n dc_Hall_sync_13 rfl rfl k) ?_
  refine sh_cp (fun w Z k => sh_lookup (off := 52) (tgt := 66) dc_Hall_sync_14 (by decide) (by decide) (by decide) k) ?_
  refine sh_cp (fun w Z k => sh_aload_n dc_Hall_sync_66 rfl rfl k) ?_
  refine sh_cget (20 + s) 1 dc_Hall_sync_67 (cw_oh (by omega) hk_s) rfl (by decide) fl_Hall_206 rfl rfl rfl rfl ?_
  refine sh_cp (fun w Z k => sh_iload_n dc_Hall_sync_70 rfl rfl k) ?_
  refine sh_cp (fun w Z k => sh_iconst (v := 2) dc_Hall_sync_71 (by decide) k) ?_
  refine sh_cp (fun w Z k => sh_isub dc_Hall_sync_72 k) ?_
  refine sh_cti (show (4 - 2 : Int32) = 2 from by decide) ?_
  refine sh_ccall (fun w hw => sh_virt (As := [.int 2]) dc_Hall_sync_73 lm_Waiters_at ln_Hall_210 wd_690 wd_22 rfl rfl (Nat.le_of_ble_eq_true rfl) (hw _ _ (cw_ot (by omega) (cw_nz hk_s (by decide)))) rfl) (ct_Waiters_at_2 (s := s) (i := 2) (by omega) (cw_nz hk_s (by decide)) (by omega) c0_73 c1_73) ⟨(Nat.le_of_ble_eq_true rfl), (Nat.le_of_ble_eq_true rfl), (Nat.le_of_ble_eq_true rfl), (Nat.le_of_ble_eq_true rfl)⟩ ?_
  show sh_cW _ _ (_, _, [.null]) K L _ _ _ _ _
  refine sh_cp (fun w Z k => sh_astoreN dc_Hall_sync_76 (by decide) k) ?_
  refine sh_cp (fun w Z k => sh_aloadq (x := none) dc_Hall_sync_78 rfl k) ?_
  show sh_cW _ _ (_, _, .null :: _) _ _ _ _ _ _ _
  refine sh_cp (fun w Z k => sh_ifnonnullN dc_Hall_sync_80 k) ?_
  refine sh_cp (fun w Z k => sh_iconst (v := (-1)) dc_Hall_sync_83 (by decide) k) ?_
  refine sh_cp (fun w Z k => sh_goto_ (tgt := 92) dc_Hall_sync_84 (by decide) k) ?_
  exact sh_ce (fun w => sh_ireturn dc_Hall_sync_92 rfl rfl (by decide) (by decide))
theorem ct_Hall_sync_Shared_4_3 {A : Nat → Nat} {K : sh_II} {L : sh_DD} {s : Nat} {u18_73 : Nat} (hs : s < 8) (hk_s : cw_cl (K 12 s) = 7) (c0_73 : ¬ (K 19 s) ≤ (nI 2)) (hu18_73 : u18_73 < 6) (c2_73 : (K 18 (6 * s + 2)) = nI u18_73) : sh_cM A md_Hall_sync [.ref (A 0), .int (nI s), .int 4] K L (.inl (some (.int (nI u18_73)))) K L := by
  refine sh_cp (fun w Z k => sh_iload_n dc_Hall_sync_0 rfl rfl k) ?_
  refine sh_cp (fun w Z k => sh_iconst (v := 0) dc_Hall_sync_1 (by decide) k) ?_
  refine sh_cp (fun w Z k => sh_bipush (v := 8) dc_Hall_sync_2 (by decide) k) ?_
  refine sh_ccall (fun w hw => sh_stat (As := [.int 4, .int 0, .int 8]) dc_Hall_sync_4 lm_Hall_checkNumber ln_Hall_39 wd_191 wd_49 rfl rfl (Nat.le_of_ble_eq_true rfl)) (ct_Hall_checkNumber_2 (x := 4) (lo := 0) (hi := 8) (by decide) (by decide)) ⟨(Nat.le_of_ble_eq_true rfl), (Nat.le_of_ble_eq_true rfl), (Nat.le_of_ble_eq_true rfl), (Nat.le_of_ble_eq_true rfl)⟩ ?_
  show sh_cW _ _ (_, _, []) K L _ _ _ _ _
  refine sh_cp (fun w Z k => sh_aload_n dc_Hall_sync_7 rfl rfl k) ?_
  refine sh_cp (fun w Z k => sh_iload_n dc_Hall_sync_8 rfl rfl k) ?_
  refine sh_ccall (fun w hw => sh_virt (As := [.int (nI s)]) dc_Hall_sync_9 lm_Hall_syncAt ln_Hall_73 wd_272 wd_2 rfl rfl (Nat.le_of_ble_eq_true rfl) (hw _ _ cw_o0) rfl) (ct_Hall_syncAt_2 (s := s) (by omega) (cw_nz hk_s (by decide))) ⟨(Nat.le_of_ble_eq_true rfl), (Nat.le_of_ble_eq_true rfl), (Nat.le_of_ble_eq_true rfl), (Nat.le_of_ble_eq_true rfl)⟩ ?_
  show sh_cW _ _ (_, _, [.ref (A (20 + s))]) K L _ _ _ _ _
  refine sh_cp (fun w Z k => sh_astore_n dc_Hall_sync_12 rfl (by decide) k) ?_
  refine sh_cp (fun w Z k => sh_iload_n dc_Hall_sync_13 rfl rfl k) ?_
  refine sh_cp (fun w Z k => sh_lookup (off := 52) (tgt := 66) dc_Hall_sync_14 (by decide) (by decide) (by decide) k) ?_
  refine sh_cp (fun w Z k => sh_aload_n dc_Hall_sync_66 rfl rfl k) ?_
  refine sh_cget (20 + s) 1 dc_Hall_sync_67 (cw_oh (by omega) hk_s) rfl (by decide) fl_Hall_206 rfl rfl rfl rfl ?_
  refine sh_cp (fun w Z k => sh_iload_n dc_Hall_sync_70 rfl rfl k) ?_
  refine sh_cp (fun w Z k => sh_iconst (v := 2) dc_Hall_sync_71 (by decide) k) ?_
  refine sh_cp (fun w Z k => sh_isub dc_Hall_sync_72 k) ?_
  refine sh_cti (show (4 - 2 : Int32) = 2 from by decide) ?_
  refine sh_ccall (fun w hw => sh_virt (As := [.int 2]) dc_Hall_sync_73 lm_Waiters_at ln_Hall_210 wd_690 wd_22 rfl rfl (Nat.le_of_ble_eq_true rfl) (hw _ _ (cw_ot (by omega) (cw_nz hk_s (by decide)))) rfl) (ct_Waiters_at_3 (s := s) (i := 2) (u18_17 := u18_73) (by omega) (cw_nz hk_s (by decide)) (by omega) c0_73 (by omega) c2_73) ⟨(Nat.le_of_ble_eq_true rfl), (Nat.le_of_ble_eq_true rfl), (Nat.le_of_ble_eq_true rfl), (Nat.le_of_ble_eq_true rfl)⟩ ?_
  show sh_cW _ _ (_, _, [.ref (A (10 + u18_73))]) K L _ _ _ _ _
  refine sh_cp (fun w Z k => sh_astore dc_Hall_sync_76 (by decide) k) ?_
  refine sh_cp (fun w Z k => sh_aload dc_Hall_sync_78 rfl k) ?_
  refine sh_cp (fun w Z k => sh_ifnonnull (tgt := 87) dc_Hall_sync_80 (by decide) k) ?_
  refine sh_cp (fun w Z k => sh_aload dc_Hall_sync_87 rfl k) ?_
  refine sh_cget (10 + u18_73) 0 dc_Hall_sync_89 (cw_ow (by omega)) rfl (by decide) fl_Hall_213 rfl rfl rfl rfl ?_
  exact sh_ce (fun w => sh_ireturn dc_Hall_sync_92 rfl rfl (by decide) (by decide))
theorem ct_Hall_sync_Shared_5_1 {A : Nat → Nat} {K : sh_II} {L : sh_DD} {s : Nat} (hs : s < 8) (hk_s : cw_cl (K 12 s) = 7) (c0_73 : (K 19 s) ≤ (nI 3)) : sh_cM A md_Hall_sync [.ref (A 0), .int (nI s), .int 5] K L (.inl (some (.int (-1)))) K L := by
  refine sh_cp (fun w Z k => sh_iload_n dc_Hall_sync_0 rfl rfl k) ?_
  refine sh_cp (fun w Z k => sh_iconst (v := 0) dc_Hall_sync_1 (by decide) k) ?_
  refine sh_cp (fun w Z k => sh_bipush (v := 8) dc_Hall_sync_2 (by decide) k) ?_
  refine sh_ccall (fun w hw => sh_stat (As := [.int 5, .int 0, .int 8]) dc_Hall_sync_4 lm_Hall_checkNumber ln_Hall_39 wd_191 wd_49 rfl rfl (Nat.le_of_ble_eq_true rfl)) (ct_Hall_checkNumber_2 (x := 5) (lo := 0) (hi := 8) (by decide) (by decide)) ⟨(Nat.le_of_ble_eq_true rfl), (Nat.le_of_ble_eq_true rfl), (Nat.le_of_ble_eq_true rfl), (Nat.le_of_ble_eq_true rfl)⟩ ?_
  show sh_cW _ _ (_, _, []) K L _ _ _ _ _
  refine sh_cp (fun w Z k => sh_aload_n dc_Hall_sync_7 rfl rfl k) ?_
  refine sh_cp (fun w Z k => sh_iload_n dc_Hall_sync_8 rfl rfl k) ?_
  refine sh_ccall (fun w hw => sh_virt (As := [.int (nI s)]) dc_Hall_sync_9 lm_Hall_syncAt ln_Hall_73 wd_272 wd_2 rfl rfl (Nat.le_of_ble_eq_true rfl) (hw _ _ cw_o0) rfl) (ct_Hall_syncAt_2 (s := s) (by omega) (cw_nz hk_s (by decide))) ⟨(Nat.le_of_ble_eq_true rfl), (Nat.le_of_ble_eq_true rfl), (Nat.le_of_ble_eq_true rfl), (Nat.le_of_ble_eq_true rfl)⟩ ?_
  show sh_cW _ _ (_, _, [.ref (A (20 + s))]) K L _ _ _ _ _
  refine sh_cp (fun w Z k => sh_astore_n dc_Hall_sync_12 rfl (by decide) k) ?_
  refine sh_cp (fun w Z k => sh_iload_n dc_Hall_sync_13 rfl rfl k) ?_
  refine sh_cp (fun w Z k => sh_lookup (off := 52) (tgt := 66) dc_Hall_sync_14 (by decide) (by decide) (by decide) k) ?_
  refine sh_cp (fun w Z k => sh_aload_n dc_Hall_sync_66 rfl rfl k) ?_
  refine sh_cget (20 + s) 1 dc_Hall_sync_67 (cw_oh (by omega) hk_s) rfl (by decide) fl_Hall_206 rfl rfl rfl rfl ?_
  refine sh_cp (fun w Z k => sh_iload_n dc_Hall_sync_70 rfl rfl k) ?_
  refine sh_cp (fun w Z k => sh_iconst (v := 2) dc_Hall_sync_71 (by decide) k) ?_
  refine sh_cp (fun w Z k => sh_isub dc_Hall_sync_72 k) ?_
  refine sh_cti (show (5 - 2 : Int32) = 3 from by decide) ?_
  refine sh_ccall (fun w hw => sh_virt (As := [.int 3]) dc_Hall_sync_73 lm_Waiters_at ln_Hall_210 wd_690 wd_22 rfl rfl (Nat.le_of_ble_eq_true rfl) (hw _ _ (cw_ot (by omega) (cw_nz hk_s (by decide)))) rfl) (ct_Waiters_at_1 (s := s) (i := 3) (by omega) (cw_nz hk_s (by decide)) (by omega) c0_73) ⟨(Nat.le_of_ble_eq_true rfl), (Nat.le_of_ble_eq_true rfl), (Nat.le_of_ble_eq_true rfl), (Nat.le_of_ble_eq_true rfl)⟩ ?_
  show sh_cW _ _ (_, _, [.null]) K L _ _ _ _ _
  refine sh_cp (fun w Z k => sh_astoreN dc_Hall_sync_76 (by decide) k) ?_
  refine sh_cp (fun w Z k => sh_aloadq (x := none) dc_Hall_sync_78 rfl k) ?_
  show sh_cW _ _ (_, _, .null :: _) _ _ _ _ _ _ _
  refine sh_cp (fun w Z k => sh_ifnonnullN dc_Hall_sync_80 k) ?_
  refine sh_cp (fun w Z k => sh_iconst (v := (-1)) dc_Hall_sync_83 (by decide) k) ?_
  refine sh_cp (fun w Z k => sh_goto_ (tgt := 92) dc_Hall_sync_84 (by decide) k) ?_
  exact sh_ce (fun w => sh_ireturn dc_Hall_sync_92 rfl rfl (by decide) (by decide))
theorem ct_Hall_sync_Shared_5_2 {A : Nat → Nat} {K : sh_II} {L : sh_DD} {s : Nat} (hs : s < 8) (hk_s : cw_cl (K 12 s) = 7) (c0_73 : ¬ (K 19 s) ≤ (nI 3)) (c1_73 : (K 18 (6 * s + 3)) = -1) : sh_cM A md_Hall_sync [.ref (A 0), .int (nI s), .int 5] K L (.inl (some (.int (-1)))) K L := by
  refine sh_cp (fun w Z k => sh_iload_n dc_Hall_sync_0 rfl rfl k) ?_
  refine sh_cp (fun w Z k => sh_iconst (v := 0) dc_Hall_sync_1 (by decide) k) ?_
  refine sh_cp (fun w Z k => sh_bipush (v := 8) dc_Hall_sync_2 (by decide) k) ?_
  refine sh_ccall (fun w hw => sh_stat (As := [.int 5, .int 0, .int 8]) dc_Hall_sync_4 lm_Hall_checkNumber ln_Hall_39 wd_191 wd_49 rfl rfl (Nat.le_of_ble_eq_true rfl)) (ct_Hall_checkNumber_2 (x := 5) (lo := 0) (hi := 8) (by decide) (by decide)) ⟨(Nat.le_of_ble_eq_true rfl), (Nat.le_of_ble_eq_true rfl), (Nat.le_of_ble_eq_true rfl), (Nat.le_of_ble_eq_true rfl)⟩ ?_
  show sh_cW _ _ (_, _, []) K L _ _ _ _ _
  refine sh_cp (fun w Z k => sh_aload_n dc_Hall_sync_7 rfl rfl k) ?_
  refine sh_cp (fun w Z k => sh_iload_n dc_Hall_sync_8 rfl rfl k) ?_
  refine sh_ccall (fun w hw => sh_virt (As := [.int (nI s)]) dc_Hall_sync_9 lm_Hall_syncAt ln_Hall_73 wd_272 wd_2 rfl rfl (Nat.le_of_ble_eq_true rfl) (hw _ _ cw_o0) rfl) (ct_Hall_syncAt_2 (s := s) (by omega) (cw_nz hk_s (by decide))) ⟨(Nat.le_of_ble_eq_true rfl), (Nat.le_of_ble_eq_true rfl), (Nat.le_of_ble_eq_true rfl), (Nat.le_of_ble_eq_true rfl)⟩ ?_
  show sh_cW _ _ (_, _, [.ref (A (20 + s))]) K L _ _ _ _ _
  refine sh_cp (fun w Z k => sh_astore_n dc_Hall_sync_12 rfl (by decide) k) ?_
  refine sh_cp (fun w Z k => sh_iload_n dc_Hall_sync_13 rfl rfl k) ?_
  refine sh_cp (fun w Z k => sh_lookup (off := 52) (tgt := 66) dc_Hall_sync_14 (by decide) (by decide) (by decide) k) ?_
  refine sh_cp (fun w Z k => sh_aload_n dc_Hall_sync_66 rfl rfl k) ?_
  refine sh_cget (20 + s) 1 dc_Hall_sync_67 (cw_oh (by omega) hk_s) rfl (by decide) fl_Hall_206 rfl rfl rfl rfl ?_
  refine sh_cp (fun w Z k => sh_iload_n dc_Hall_sync_70 rfl rfl k) ?_
  refine sh_cp (fun w Z k => sh_iconst (v := 2) dc_Hall_sync_71 (by decide) k) ?_
  refine sh_cp (fun w Z k => sh_isub dc_Hall_sync_72 k) ?_
  refine sh_cti (show (5 - 2 : Int32) = 3 from by decide) ?_
  refine sh_ccall (fun w hw => sh_virt (As := [.int 3]) dc_Hall_sync_73 lm_Waiters_at ln_Hall_210 wd_690 wd_22 rfl rfl (Nat.le_of_ble_eq_true rfl) (hw _ _ (cw_ot (by omega) (cw_nz hk_s (by decide)))) rfl) (ct_Waiters_at_2 (s := s) (i := 3) (by omega) (cw_nz hk_s (by decide)) (by omega) c0_73 c1_73) ⟨(Nat.le_of_ble_eq_true rfl), (Nat.le_of_ble_eq_true rfl), (Nat.le_of_ble_eq_true rfl), (Nat.le_of_ble_eq_true rfl)⟩ ?_
  show sh_cW _ _ (_, _, [.null]) K L _ _ _ _ _
  refine sh_cp (fun w Z k => sh_astoreN dc_Hall_sync_76 (by decide) k) ?_
  refine sh_cp (fun w Z k => sh_aloadq (x := none) dc_Hall_sync_78 rfl k) ?_
  show sh_cW _ _ (_, _, .null :: _) _ _ _ _ _ _ _
  refine sh_cp (fun w Z k => sh_ifnonnullN dc_Hall_sync_80 k) ?_
  refine sh_cp (fun w Z k => sh_iconst (v := (-1)) dc_Hall_sync_83 (by decide) k) ?_
  refine sh_cp (fun w Z k => sh_goto_ (tgt := 92) dc_Hall_sync_84 (by decide) k) ?_
  exact sh_ce (fun w => sh_ireturn dc_Hall_sync_92 rfl rfl (by decide) (by decide))
theorem ct_Hall_sync_Shared_5_3 {A : Nat → Nat} {K : sh_II} {L : sh_DD} {s : Nat} {u18_73 : Nat} (hs : s < 8) (hk_s : cw_cl (K 12 s) = 7) (c0_73 : ¬ (K 19 s) ≤ (nI 3)) (hu18_73 : u18_73 < 6) (c2_73 : (K 18 (6 * s + 3)) = nI u18_73) : sh_cM A md_Hall_sync [.ref (A 0), .int (nI s), .int 5] K L (.inl (some (.int (nI u18_73)))) K L := by
  refine sh_cp (fun w Z k => sh_iload_n dc_Hall_sync_0 rfl rfl k) ?_
  refine sh_cp (fun w Z k => sh_iconst (v := 0) dc_Hall_sync_1 (by decide) k) ?_
  refine sh_cp (fun w Z k => sh_bipush (v := 8) dc_Hall_sync_2 (by decide) k) ?_
  refine sh_ccall (fun w hw => sh_stat (As := [.int 5, .int 0, .int 8]) dc_Hall_sync_4 lm_Hall_checkNumber ln_Hall_39 wd_191 wd_49 rfl rfl (Nat.le_of_ble_eq_true rfl)) (ct_Hall_checkNumber_2 (x := 5) (lo := 0) (hi := 8) (by decide) (by decide)) ⟨(Nat.le_of_ble_eq_true rfl), (Nat.le_of_ble_eq_true rfl), (Nat.le_of_ble_eq_true rfl), (Nat.le_of_ble_eq_true rfl)⟩ ?_
  show sh_cW _ _ (_, _, []) K L _ _ _ _ _
  refine sh_cp (fun w Z k => sh_aload_n dc_Hall_sync_7 rfl rfl k) ?_
  refine sh_cp (fun w Z k => sh_iload_n dc_Hall_sync_8 rfl rfl k) ?_
  refine sh_ccall (fun w hw => sh_virt (As := [.int (nI s)]) dc_Hall_sync_9 lm_Hall_syncAt ln_Hall_73 wd_272 wd_2 rfl rfl (Nat.le_of_ble_eq_true rfl) (hw _ _ cw_o0) rfl) (ct_Hall_syncAt_2 (s := s) (by omega) (cw_nz hk_s (by decide))) ⟨(Nat.le_of_ble_eq_true rfl), (Nat.le_of_ble_eq_true rfl), (Nat.le_of_ble_eq_true rfl), (Nat.le_of_ble_eq_true rfl)⟩ ?_
  show sh_cW _ _ (_, _, [.ref (A (20 + s))]) K L _ _ _ _ _
  refine sh_cp (fun w Z k => sh_astore_n dc_Hall_sync_12 rfl (by decide) k) ?_
  refine sh_cp (fun w Z k => sh_iload_n dc_Hall_sync_13 rfl rfl k) ?_
  refine sh_cp (fun w Z k => sh_lookup (off := 52) (tgt := 66) dc_Hall_sync_14 (by decide) (by decide) (by decide) k) ?_
  refine sh_cp (fun w Z k => sh_aload_n dc_Hall_sync_66 rfl rfl k) ?_
  refine sh_cget (20 + s) 1 dc_Hall_sync_67 (cw_oh (by omega) hk_s) rfl (by decide) fl_Hall_206 rfl rfl rfl rfl ?_
  refine sh_cp (fun w Z k => sh_iload_n dc_Hall_sync_70 rfl rfl k) ?_
  refine sh_cp (fun w Z k => sh_iconst (v := 2) dc_Hall_sync_71 (by decide) k) ?_
  refine sh_cp (fun w Z k => sh_isub dc_Hall_sync_72 k) ?_
  refine sh_cti (show (5 - 2 : Int32) = 3 from by decide) ?_
  refine sh_ccall (fun w hw => sh_virt (As := [.int 3]) dc_Hall_sync_73 lm_Waiters_at ln_Hall_210 wd_690 wd_22 rfl rfl (Nat.le_of_ble_eq_true rfl) (hw _ _ (cw_ot (by omega) (cw_nz hk_s (by decide)))) rfl) (ct_Waiters_at_3 (s := s) (i := 3) (u18_17 := u18_73) (by omega) (cw_nz hk_s (by decide)) (by omega) c0_73 (by omega) c2_73) ⟨(Nat.le_of_ble_eq_true rfl), (Nat.le_of_ble_eq_true rfl), (Nat.le_of_ble_eq_true rfl), (Nat.le_of_ble_eq_true rfl)⟩ ?_
  show sh_cW _ _ (_, _, [.ref (A (10 + u18_73))]) K L _ _ _ _ _
  refine sh_cp (fun w Z k => sh_astore dc_Hall_sync_76 (by decide) k) ?_
  refine sh_cp (fun w Z k => sh_aload dc_Hall_sync_78 rfl k) ?_
  refine sh_cp (fun w Z k => sh_ifnonnull (tgt := 87) dc_Hall_sync_80 (by decide) k) ?_
  refine sh_cp (fun w Z k => sh_aload dc_Hall_sync_87 rfl k) ?_
  refine sh_cget (10 + u18_73) 0 dc_Hall_sync_89 (cw_ow (by omega)) rfl (by decide) fl_Hall_213 rfl rfl rfl rfl ?_
  exact sh_ce (fun w => sh_ireturn dc_Hall_sync_92 rfl rfl (by decide) (by decide))
theorem ct_Hall_sync_Shared_6_1 {A : Nat → Nat} {K : sh_II} {L : sh_DD} {s : Nat} (hs : s < 8) (hk_s : cw_cl (K 12 s) = 7) (c0_73 : (K 19 s) ≤ (nI 4)) : sh_cM A md_Hall_sync [.ref (A 0), .int (nI s), .int 6] K L (.inl (some (.int (-1)))) K L := by
  refine sh_cp (fun w Z k => sh_iload_n dc_Hall_sync_0 rfl rfl k) ?_
  refine sh_cp (fun w Z k => sh_iconst (v := 0) dc_Hall_sync_1 (by decide) k) ?_
  refine sh_cp (fun w Z k => sh_bipush (v := 8) dc_Hall_sync_2 (by decide) k) ?_
  refine sh_ccall (fun w hw => sh_stat (As := [.int 6, .int 0, .int 8]) dc_Hall_sync_4 lm_Hall_checkNumber ln_Hall_39 wd_191 wd_49 rfl rfl (Nat.le_of_ble_eq_true rfl)) (ct_Hall_checkNumber_2 (x := 6) (lo := 0) (hi := 8) (by decide) (by decide)) ⟨(Nat.le_of_ble_eq_true rfl), (Nat.le_of_ble_eq_true rfl), (Nat.le_of_ble_eq_true rfl), (Nat.le_of_ble_eq_true rfl)⟩ ?_
  show sh_cW _ _ (_, _, []) K L _ _ _ _ _
  refine sh_cp (fun w Z k => sh_aload_n dc_Hall_sync_7 rfl rfl k) ?_
  refine sh_cp (fun w Z k => sh_iload_n dc_Hall_sync_8 rfl rfl k) ?_
  refine sh_ccall (fun w hw => sh_virt (As := [.int (nI s)]) dc_Hall_sync_9 lm_Hall_syncAt ln_Hall_73 wd_272 wd_2 rfl rfl (Nat.le_of_ble_eq_true rfl) (hw _ _ cw_o0) rfl) (ct_Hall_syncAt_2 (s := s) (by omega) (cw_nz hk_s (by decide))) ⟨(Nat.le_of_ble_eq_true rfl), (Nat.le_of_ble_eq_true rfl), (Nat.le_of_ble_eq_true rfl), (Nat.le_of_ble_eq_true rfl)⟩ ?_
  show sh_cW _ _ (_, _, [.ref (A (20 + s))]) K L _ _ _ _ _
  refine sh_cp (fun w Z k => sh_astore_n dc_Hall_sync_12 rfl (by decide) k) ?_
  refine sh_cp (fun w Z k => sh_iload_n dc_Hall_sync_13 rfl rfl k) ?_
  refine sh_cp (fun w Z k => sh_lookup (off := 52) (tgt := 66) dc_Hall_sync_14 (by decide) (by decide) (by decide) k) ?_
  refine sh_cp (fun w Z k => sh_aload_n dc_Hall_sync_66 rfl rfl k) ?_
  refine sh_cget (20 + s) 1 dc_Hall_sync_67 (cw_oh (by omega) hk_s) rfl (by decide) fl_Hall_206 rfl rfl rfl rfl ?_
  refine sh_cp (fun w Z k => sh_iload_n dc_Hall_sync_70 rfl rfl k) ?_
  refine sh_cp (fun w Z k => sh_iconst (v := 2) dc_Hall_sync_71 (by decide) k) ?_
  refine sh_cp (fun w Z k => sh_isub dc_Hall_sync_72 k) ?_
  refine sh_cti (show (6 - 2 : Int32) = 4 from by decide) ?_
  refine sh_ccall (fun w hw => sh_virt (As := [.int 4]) dc_Hall_sync_73 lm_Waiters_at ln_Hall_210 wd_690 wd_22 rfl rfl (Nat.le_of_ble_eq_true rfl) (hw _ _ (cw_ot (by omega) (cw_nz hk_s (by decide)))) rfl) (ct_Waiters_at_1 (s := s) (i := 4) (by omega) (cw_nz hk_s (by decide)) (by omega) c0_73) ⟨(Nat.le_of_ble_eq_true rfl), (Nat.le_of_ble_eq_true rfl), (Nat.le_of_ble_eq_true rfl), (Nat.le_of_ble_eq_true rfl)⟩ ?_
  show sh_cW _ _ (_, _, [.null]) K L _ _ _ _ _
  refine sh_cp (fun w Z k => sh_astoreN dc_Hall_sync_76 (by decide) k) ?_
  refine sh_cp (fun w Z k => sh_aloadq (x := none) dc_Hall_sync_78 rfl k) ?_
  show sh_cW _ _ (_, _, .null :: _) _ _ _ _ _ _ _
  refine sh_cp (fun w Z k => sh_ifnonnullN dc_Hall_sync_80 k) ?_
  refine sh_cp (fun w Z k => sh_iconst (v := (-1)) dc_Hall_sync_83 (by decide) k) ?_
  refine sh_cp (fun w Z k => sh_goto_ (tgt := 92) dc_Hall_sync_84 (by decide) k) ?_
  exact sh_ce (fun w => sh_ireturn dc_Hall_sync_92 rfl rfl (by decide) (by decide))
theorem ct_Hall_sync_Shared_6_2 {A : Nat → Nat} {K : sh_II} {L : sh_DD} {s : Nat} (hs : s < 8) (hk_s : cw_cl (K 12 s) = 7) (c0_73 : ¬ (K 19 s) ≤ (nI 4)) (c1_73 : (K 18 (6 * s + 4)) = -1) : sh_cM A md_Hall_sync [.ref (A 0), .int (nI s), .int 6] K L (.inl (some (.int (-1)))) K L := by
  refine sh_cp (fun w Z k => sh_iload_n dc_Hall_sync_0 rfl rfl k) ?_
  refine sh_cp (fun w Z k => sh_iconst (v := 0) dc_Hall_sync_1 (by decide) k) ?_
  refine sh_cp (fun w Z k => sh_bipush (v := 8) dc_Hall_sync_2 (by decide) k) ?_
  refine sh_ccall (fun w hw => sh_stat (As := [.int 6, .int 0, .int 8]) dc_Hall_sync_4 lm_Hall_checkNumber ln_Hall_39 wd_191 wd_49 rfl rfl (Nat.le_of_ble_eq_true rfl)) (ct_Hall_checkNumber_2 (x := 6) (lo := 0) (hi := 8) (by decide) (by decide)) ⟨(Nat.le_of_ble_eq_true rfl), (Nat.le_of_ble_eq_true rfl), (Nat.le_of_ble_eq_true rfl), (Nat.le_of_ble_eq_true rfl)⟩ ?_
  show sh_cW _ _ (_, _, []) K L _ _ _ _ _
  refine sh_cp (fun w Z k => sh_aload_n dc_Hall_sync_7 rfl rfl k) ?_
  refine sh_cp (fun w Z k => sh_iload_n dc_Hall_sync_8 rfl rfl k) ?_
  refine sh_ccall (fun w hw => sh_virt (As := [.int (nI s)]) dc_Hall_sync_9 lm_Hall_syncAt ln_Hall_73 wd_272 wd_2 rfl rfl (Nat.le_of_ble_eq_true rfl) (hw _ _ cw_o0) rfl) (ct_Hall_syncAt_2 (s := s) (by omega) (cw_nz hk_s (by decide))) ⟨(Nat.le_of_ble_eq_true rfl), (Nat.le_of_ble_eq_true rfl), (Nat.le_of_ble_eq_true rfl), (Nat.le_of_ble_eq_true rfl)⟩ ?_
  show sh_cW _ _ (_, _, [.ref (A (20 + s))]) K L _ _ _ _ _
  refine sh_cp (fun w Z k => sh_astore_n dc_Hall_sync_12 rfl (by decide) k) ?_
  refine sh_cp (fun w Z k => sh_iload_n dc_Hall_sync_13 rfl rfl k) ?_
  refine sh_cp (fun w Z k => sh_lookup (off := 52) (tgt := 66) dc_Hall_sync_14 (by decide) (by decide) (by decide) k) ?_
  refine sh_cp (fun w Z k => sh_aload_n dc_Hall_sync_66 rfl rfl k) ?_
  refine sh_cget (20 + s) 1 dc_Hall_sync_67 (cw_oh (by omega) hk_s) rfl (by decide) fl_Hall_206 rfl rfl rfl rfl ?_
  refine sh_cp (fun w Z k => sh_iload_n dc_Hall_sync_70 rfl rfl k) ?_
  refine sh_cp (fun w Z k => sh_iconst (v := 2) dc_Hall_sync_71 (by decide) k) ?_
  refine sh_cp (fun w Z k => sh_isub dc_Hall_sync_72 k) ?_
  refine sh_cti (show (6 - 2 : Int32) = 4 from by decide) ?_
  refine sh_ccall (fun w hw => sh_virt (As := [.int 4]) dc_Hall_sync_73 lm_Waiters_at ln_Hall_210 wd_690 wd_22 rfl rfl (Nat.le_of_ble_eq_true rfl) (hw _ _ (cw_ot (by omega) (cw_nz hk_s (by decide)))) rfl) (ct_Waiters_at_2 (s := s) (i := 4) (by omega) (cw_nz hk_s (by decide)) (by omega) c0_73 c1_73) ⟨(Nat.le_of_ble_eq_true rfl), (Nat.le_of_ble_eq_true rfl), (Nat.le_of_ble_eq_true rfl), (Nat.le_of_ble_eq_true rfl)⟩ ?_
  show sh_cW _ _ (_, _, [.null]) K L _ _ _ _ _
  refine sh_cp (fun w Z k => sh_astoreN dc_Hall_sync_76 (by decide) k) ?_
  refine sh_cp (fun w Z k => sh_aloadq (x := none) dc_Hall_sync_78 rfl k) ?_
  show sh_cW _ _ (_, _, .null :: _) _ _ _ _ _ _ _
  refine sh_cp (fun w Z k => sh_ifnonnullN dc_Hall_sync_80 k) ?_
  refine sh_cp (fun w Z k => sh_iconst (v := (-1)) dc_Hall_sync_83 (by decide) k) ?_
  refine sh_cp (fun w Z k => sh_goto_ (tgt := 92) dc_Hall_sync_84 (by decide) k) ?_
  exact sh_ce (fun w => sh_ireturn dc_Hall_sync_92 rfl rfl (by decide) (by decide))
theorem ct_Hall_sync_Shared_6_3 {A : Nat → Nat} {K : sh_II} {L : sh_DD} {s : Nat} {u18_73 : Nat} (hs : s < 8) (hk_s : cw_cl (K 12 s) = 7) (c0_73 : ¬ (K 19 s) ≤ (nI 4)) (hu18_73 : u18_73 < 6) (c2_73 : (K 18 (6 * s + 4)) = nI u18_73) : sh_cM A md_Hall_sync [.ref (A 0), .int (nI s), .int 6] K L (.inl (some (.int (nI u18_73)))) K L := by
  refine sh_cp (fun w Z k => sh_iload_n dc_Hall_sync_0 rfl rfl k) ?_
  refine sh_cp (fun w Z k => sh_iconst (v := 0) dc_Hall_sync_1 (by decide) k) ?_
  refine sh_cp (fun w Z k => sh_bipush (v := 8) dc_Hall_sync_2 (by decide) k) ?_
  refine sh_ccall (fun w hw => sh_stat (As := [.int 6, .int 0, .int 8]) dc_Hall_sync_4 lm_Hall_checkNumber ln_Hall_39 wd_191 wd_49 rfl rfl (Nat.le_of_ble_eq_true rfl)) (ct_Hall_checkNumber_2 (x := 6) (lo := 0) (hi := 8) (by decide) (by decide)) ⟨(Nat.le_of_ble_eq_true rfl), (Nat.le_of_ble_eq_true rfl), (Nat.le_of_ble_eq_true rfl), (Nat.le_of_ble_eq_true rfl)⟩ ?_
  show sh_cW _ _ (_, _, []) K L _ _ _ _ _
  refine sh_cp (fun w Z k => sh_aload_n dc_Hall_sync_7 rfl rfl k) ?_
  refine sh_cp (fun w Z k => sh_iload_n dc_Hall_sync_8 rfl rfl k) ?_
  refine sh_ccall (fun w hw => sh_virt (As := [.int (nI s)]) dc_Hall_sync_9 lm_Hall_syncAt ln_Hall_73 wd_272 wd_2 rfl rfl (Nat.le_of_ble_eq_true rfl) (hw _ _ cw_o0) rfl) (ct_Hall_syncAt_2 (s := s) (by omega) (cw_nz hk_s (by decide))) ⟨(Nat.le_of_ble_eq_true rfl), (Nat.le_of_ble_eq_true rfl), (Nat.le_of_ble_eq_true rfl), (Nat.le_of_ble_eq_true rfl)⟩ ?_
  show sh_cW _ _ (_, _, [.ref (A (20 + s))]) K L _ _ _ _ _
  refine sh_cp (fun w Z k => sh_astore_n dc_Hall_sync_12 rfl (by decide) k) ?_
  refine sh_cp (fun w Z k => sh_iload_n dc_Hall_sync_13 rfl rfl k) ?_
  refine sh_cp (fun w Z k => sh_lookup (off := 52) (tgt := 66) dc_Hall_sync_14 (by decide) (by decide) (by decide) k) ?_
  refine sh_cp (fun w Z k => sh_aload_n dc_Hall_sync_66 rfl rfl k) ?_
  refine sh_cget (20 + s) 1 dc_Hall_sync_67 (cw_oh (by omega) hk_s) rfl (by decide) fl_Hall_206 rfl rfl rfl rfl ?_
  refine sh_cp (fun w Z k => sh_iload_n dc_Hall_sync_70 rfl rfl k) ?_
  refine sh_cp (fun w Z k => sh_iconst (v := 2) dc_Hall_sync_71 (by decide) k) ?_
  refine sh_cp (fun w Z k => sh_isub dc_Hall_sync_72 k) ?_
  refine sh_cti (show (6 - 2 : Int32) = 4 from by decide) ?_
  refine sh_ccall (fun w hw => sh_virt (As := [.int 4]) dc_Hall_sync_73 lm_Waiters_at ln_Hall_210 wd_690 wd_22 rfl rfl (Nat.le_of_ble_eq_true rfl) (hw _ _ (cw_ot (by omega) (cw_nz hk_s (by decide)))) rfl) (ct_Waiters_at_3 (s := s) (i := 4) (u18_17 := u18_73) (by omega) (cw_nz hk_s (by decide)) (by omega) c0_73 (by omega) c2_73) ⟨(Nat.le_of_ble_eq_true rfl), (Nat.le_of_ble_eq_true rfl), (Nat.le_of_ble_eq_true rfl), (Nat.le_of_ble_eq_true rfl)⟩ ?_
  show sh_cW _ _ (_, _, [.ref (A (10 + u18_73))]) K L _ _ _ _ _
  refine sh_cp (fun w Z k => sh_astore dc_Hall_sync_76 (by decide) k) ?_
  refine sh_cp (fun w Z k => sh_aload dc_Hall_sync_78 rfl k) ?_
  refine sh_cp (fun w Z k => sh_ifnonnull (tgt := 87) dc_Hall_sync_80 (by decide) k) ?_
  refine sh_cp (fun w Z k => sh_aload dc_Hall_sync_87 rfl k) ?_
  refine sh_cget (10 + u18_73) 0 dc_Hall_sync_89 (cw_ow (by omega)) rfl (by decide) fl_Hall_213 rfl rfl rfl rfl ?_
  exact sh_ce (fun w => sh_ireturn dc_Hall_sync_92 rfl rfl (by decide) (by decide))
theorem ct_Hall_sync_Shared_7_1 {A : Nat → Nat} {K : sh_II} {L : sh_DD} {s : Nat} (hs : s < 8) (hk_s : cw_cl (K 12 s) = 7) (c0_73 : (K 19 s) ≤ (nI 5)) : sh_cM A md_Hall_sync [.ref (A 0), .int (nI s), .int 7] K L (.inl (some (.int (-1)))) K L := by
  refine sh_cp (fun w Z k => sh_iload_n dc_Hall_sync_0 rfl rfl k) ?_
  refine sh_cp (fun w Z k => sh_iconst (v := 0) dc_Hall_sync_1 (by decide) k) ?_
  refine sh_cp (fun w Z k => sh_bipush (v := 8) dc_Hall_sync_2 (by decide) k) ?_
  refine sh_ccall (fun w hw => sh_stat (As := [.int 7, .int 0, .int 8]) dc_Hall_sync_4 lm_Hall_checkNumber ln_Hall_39 wd_191 wd_49 rfl rfl (Nat.le_of_ble_eq_true rfl)) (ct_Hall_checkNumber_2 (x := 7) (lo := 0) (hi := 8) (by decide) (by decide)) ⟨(Nat.le_of_ble_eq_true rfl), (Nat.le_of_ble_eq_true rfl), (Nat.le_of_ble_eq_true rfl), (Nat.le_of_ble_eq_true rfl)⟩ ?_
  show sh_cW _ _ (_, _, []) K L _ _ _ _ _
  refine sh_cp (fun w Z k => sh_aload_n dc_Hall_sync_7 rfl rfl k) ?_
  refine sh_cp (fun w Z k => sh_iload_n dc_Hall_sync_8 rfl rfl k) ?_
  refine sh_ccall (fun w hw => sh_virt (As := [.int (nI s)]) dc_Hall_sync_9 lm_Hall_syncAt ln_Hall_73 wd_272 wd_2 rfl rfl (Nat.le_of_ble_eq_true rfl) (hw _ _ cw_o0) rfl) (ct_Hall_syncAt_2 (s := s) (by omega) (cw_nz hk_s (by decide))) ⟨(Nat.le_of_ble_eq_true rfl), (Nat.le_of_ble_eq_true rfl), (Nat.le_of_ble_eq_true rfl), (Nat.le_of_ble_eq_true rfl)⟩ ?_
  show sh_cW _ _ (_, _, [.ref (A (20 + s))]) K L _ _ _ _ _
  refine sh_cp (fun w Z k => sh_astore_n dc_Hall_sync_12 rfl (by decide) k) ?_
  refine sh_cp (fun w Z k => sh_iload_n dc_Hall_sync_13 rfl rfl k) ?_
  refine sh_cp (fun w Z k => sh_lookup (off := 52) (tgt := 66) dc_Hall_sync_14 (by decide) (by decide) (by decide) k) ?_
  refine sh_cp (fun w Z k => sh_aload_n dc_Hall_sync_66 rfl rfl k) ?_
  refine sh_cget (20 + s) 1 dc_Hall_sync_67 (cw_oh (by omega) hk_s) rfl (by decide) fl_Hall_206 rfl rfl rfl rfl ?_
  refine sh_cp (fun w Z k => sh_iload_n dc_Hall_sync_70 rfl rfl k) ?_
  refine sh_cp (fun w Z k => sh_iconst (v := 2) dc_Hall_sync_71 (by decide) k) ?_
  refine sh_cp (fun w Z k => sh_isub dc_Hall_sync_72 k) ?_
  refine sh_cti (show (7 - 2 : Int32) = 5 from by decide) ?_
  refine sh_ccall (fun w hw => sh_virt (As := [.int 5]) dc_Hall_sync_73 lm_Waiters_at ln_Hall_210 wd_690 wd_22 rfl rfl (Nat.le_of_ble_eq_true rfl) (hw _ _ (cw_ot (by omega) (cw_nz hk_s (by decide)))) rfl) (ct_Waiters_at_1 (s := s) (i := 5) (by omega) (cw_nz hk_s (by decide)) (by omega) c0_73) ⟨(Nat.le_of_ble_eq_true rfl), (Nat.le_of_ble_eq_true rfl), (Nat.le_of_ble_eq_true rfl), (Nat.le_of_ble_eq_true rfl)⟩ ?_
  show sh_cW _ _ (_, _, [.null]) K L _ _ _ _ _
  refine sh_cp (fun w Z k => sh_astoreN dc_Hall_sync_76 (by decide) k) ?_
  refine sh_cp (fun w Z k => sh_aloadq (x := none) dc_Hall_sync_78 rfl k) ?_
  show sh_cW _ _ (_, _, .null :: _) _ _ _ _ _ _ _
  refine sh_cp (fun w Z k => sh_ifnonnullN dc_Hall_sync_80 k) ?_
  refine sh_cp (fun w Z k => sh_iconst (v := (-1)) dc_Hall_sync_83 (by decide) k) ?_
  refine sh_cp (fun w Z k => sh_goto_ (tgt := 92) dc_Hall_sync_84 (by decide) k) ?_
  exact sh_ce (fun w => sh_ireturn dc_Hall_sync_92 rfl rfl (by decide) (by decide))
theorem ct_Hall_sync_Shared_7_2 {A : Nat → Nat} {K : sh_II} {L : sh_DD} {s : Nat} (hs : s < 8) (hk_s : cw_cl (K 12 s) = 7) (c0_73 : ¬ (K 19 s) ≤ (nI 5)) (c1_73 : (K 18 (6 * s + 5)) = -1) : sh_cM A md_Hall_sync [.ref (A 0), .int (nI s), .int 7] K L (.inl (some (.int (-1)))) K L := by
  refine sh_cp (fun w Z k => sh_iload_n dc_Hall_sync_0 rfl rfl k) ?_
  refine sh_cp (fun w Z k => sh_iconst (v := 0) dc_Hall_sync_1 (by decide) k) ?_
  refine sh_cp (fun w Z k => sh_bipush (v := 8) dc_Hall_sync_2 (by decide) k) ?_
  refine sh_ccall (fun w hw => sh_stat (As := [.int 7, .int 0, .int 8]) dc_Hall_sync_4 lm_Hall_checkNumber ln_Hall_39 wd_191 wd_49 rfl rfl (Nat.le_of_ble_eq_true rfl)) (ct_Hall_checkNumber_2 (x := 7) (lo := 0) (hi := 8) (by decide) (by decide)) ⟨(Nat.le_of_ble_eq_true rfl), (Nat.le_of_ble_eq_true rfl), (Nat.le_of_ble_eq_true rfl), (Nat.le_of_ble_eq_true rfl)⟩ ?_
  show sh_cW _ _ (_, _, []) K L _ _ _ _ _
  refine sh_cp (fun w Z k => sh_aload_n dc_Hall_sync_7 rfl rfl k) ?_
  refine sh_cp (fun w Z k => sh_iload_n dc_Hall_sync_8 rfl rfl k) ?_
  refine sh_ccall (fun w hw => sh_virt (As := [.int (nI s)]) dc_Hall_sync_9 lm_Hall_syncAt ln_Hall_73 wd_272 wd_2 rfl rfl (Nat.le_of_ble_eq_true rfl) (hw _ _ cw_o0) rfl) (ct_Hall_syncAt_2 (s := s) (by omega) (cw_nz hk_s (by decide))) ⟨(Nat.le_of_ble_eq_true rfl), (Nat.le_of_ble_eq_true rfl), (Nat.le_of_ble_eq_true rfl), (Nat.le_of_ble_eq_true rfl)⟩ ?_
  show sh_cW _ _ (_, _, [.ref (A (20 + s))]) K L _ _ _ _ _
  refine sh_cp (fun w Z k => sh_astore_n dc_Hall_sync_12 rfl (by decide) k) ?_
  refine sh_cp (fun w Z k => sh_iload_n dc_Hall_sync_13 rfl rfl k) ?_
  refine sh_cp (fun w Z k => sh_lookup (off := 52) (tgt := 66) dc_Hall_sync_14 (by decide) (by decide) (by decide) k) ?_
  refine sh_cp (fun w Z k => sh_aload_n dc_Hall_sync_66 rfl rfl k) ?_
  refine sh_cget (20 + s) 1 dc_Hall_sync_67 (cw_oh (by omega) hk_s) rfl (by decide) fl_Hall_206 rfl rfl rfl rfl ?_
  refine sh_cp (fun w Z k => sh_iload_n dc_Hall_sync_70 rfl rfl k) ?_
  refine sh_cp (fun w Z k => sh_iconst (v := 2) dc_Hall_sync_71 (by decide) k) ?_
  refine sh_cp (fun w Z k => sh_isub dc_Hall_sync_72 k) ?_
  refine sh_cti (show (7 - 2 : Int32) = 5 from by decide) ?_
  refine sh_ccall (fun w hw => sh_virt (As := [.int 5]) dc_Hall_sync_73 lm_Waiters_at ln_Hall_210 wd_690 wd_22 rfl rfl (Nat.le_of_ble_eq_true rfl) (hw _ _ (cw_ot (by omega) (cw_nz hk_s (by decide)))) rfl) (ct_Waiters_at_2 (s := s) (i := 5) (by omega) (cw_nz hk_s (by decide)) (by omega) c0_73 c1_73) ⟨(Nat.le_of_ble_eq_true rfl), (Nat.le_of_ble_eq_true rfl), (Nat.le_of_ble_eq_true rfl), (Nat.le_of_ble_eq_true rfl)⟩ ?_
  show sh_cW _ _ (_, _, [.null]) K L _ _ _ _ _
  refine sh_cp (fun w Z k => sh_astoreN dc_Hall_sync_76 (by decide) k) ?_
  refine sh_cp (fun w Z k => sh_aloadq (x := none) dc_Hall_sync_78 rfl k) ?_
  show sh_cW _ _ (_, _, .null :: _) _ _ _ _ _ _ _
  refine sh_cp (fun w Z k => sh_ifnonnullN dc_Hall_sync_80 k) ?_
  refine sh_cp (fun w Z k => sh_iconst (v := (-1)) dc_Hall_sync_83 (by decide) k) ?_
  refine sh_cp (fun w Z k => sh_goto_ (tgt := 92) dc_Hall_sync_84 (by decide) k) ?_
  exact sh_ce (fun w => sh_ireturn dc_Hall_sync_92 rfl rfl (by decide) (by decide))
theorem ct_Hall_sync_Shared_7_3 {A : Nat → Nat} {K : sh_II} {L : sh_DD} {s : Nat} {u18_73 : Nat} (hs : s < 8) (hk_s : cw_cl (K 12 s) = 7) (c0_73 : ¬ (K 19 s) ≤ (nI 5)) (hu18_73 : u18_73 < 6) (c2_73 : (K 18 (6 * s + 5)) = nI u18_73) : sh_cM A md_Hall_sync [.ref (A 0), .int (nI s), .int 7] K L (.inl (some (.int (nI u18_73)))) K L := by
  refine sh_cp (fun w Z k => sh_iload_n dc_Hall_sync_0 rfl rfl k) ?_
  refine sh_cp (fun w Z k => sh_iconst (v := 0) dc_Hall_sync_1 (by decide) k) ?_
  refine sh_cp (fun w Z k => sh_bipush (v := 8) dc_Hall_sync_2 (by decide) k) ?_
  refine sh_ccall (fun w hw => sh_stat (As := [.int 7, .int 0, .int 8]) dc_Hall_sync_4 lm_Hall_checkNumber ln_Hall_39 wd_191 wd_49 rfl rfl (Nat.le_of_ble_eq_true rfl)) (ct_Hall_checkNumber_2 (x := 7) (lo := 0) (hi := 8) (by decide) (by decide)) ⟨(Nat.le_of_ble_eq_true rfl), (Nat.le_of_ble_eq_true rfl), (Nat.le_of_ble_eq_true rfl), (Nat.le_of_ble_eq_true rfl)⟩ ?_
  show sh_cW _ _ (_, _, []) K L _ _ _ _ _
  refine sh_cp (fun w Z k => sh_aload_n dc_Hall_sync_7 rfl rfl k) ?_
  refine sh_cp (fun w Z k => sh_iload_n dc_Hall_sync_8 rfl rfl k) ?_
  refine sh_ccall (fun w hw => sh_virt (As := [.int (nI s)]) dc_Hall_sync_9 lm_Hall_syncAt ln_Hall_73 wd_272 wd_2 rfl rfl (Nat.le_of_ble_eq_true rfl) (hw _ _ cw_o0) rfl) (ct_Hall_syncAt_2 (s := s) (by omega) (cw_nz hk_s (by decide))) ⟨(Nat.le_of_ble_eq_true rfl), (Nat.le_of_ble_eq_true rfl), (Nat.le_of_ble_eq_true rfl), (Nat.le_of_ble_eq_true rfl)⟩ ?_
  show sh_cW _ _ (_, _, [.ref (A (20 + s))]) K L _ _ _ _ _
  refine sh_cp (fun w Z k => sh_astore_n dc_Hall_sync_12 rfl (by decide) k) ?_
  refine sh_cp (fun w Z k => sh_iload_n dc_Hall_sync_13 rfl rfl k) ?_
  refine sh_cp (fun w Z k => sh_lookup (off := 52) (tgt := 66) dc_Hall_sync_14 (by decide) (by decide) (by decide) k) ?_
  refine sh_cp (fun w Z k => sh_aload_n dc_Hall_sync_66 rfl rfl k) ?_
  refine sh_cget (20 + s) 1 dc_Hall_sync_67 (cw_oh (by omega) hk_s) rfl (by decide) fl_Hall_206 rfl rfl rfl rfl ?_
  refine sh_cp (fun w Z k => sh_iload_n dc_Hall_sync_70 rfl rfl k) ?_
  refine sh_cp (fun w Z k => sh_iconst (v := 2) dc_Hall_sync_71 (by decide) k) ?_
  refine sh_cp (fun w Z k => sh_isub dc_Hall_sync_72 k) ?_
  refine sh_cti (show (7 - 2 : Int32) = 5 from by decide) ?_
  refine sh_ccall (fun w hw => sh_virt (As := [.int 5]) dc_Hall_sync_73 lm_Waiters_at ln_Hall_210 wd_690 wd_22 rfl rfl (Nat.le_of_ble_eq_true rfl) (hw _ _ (cw_ot (by omega) (cw_nz hk_s (by decide)))) rfl) (ct_Waiters_at_3 (s := s) (i := 5) (u18_17 := u18_73) (by omega) (cw_nz hk_s (by decide)) (by omega) c0_73 (by omega) c2_73) ⟨(Nat.le_of_ble_eq_true rfl), (Nat.le_of_ble_eq_true rfl), (Nat.le_of_ble_eq_true rfl), (Nat.le_of_ble_eq_true rfl)⟩ ?_
  show sh_cW _ _ (_, _, [.ref (A (10 + u18_73))]) K L _ _ _ _ _
  refine sh_cp (fun w Z k => sh_astore dc_Hall_sync_76 (by decide) k) ?_
  refine sh_cp (fun w Z k => sh_aload dc_Hall_sync_78 rfl k) ?_
  refine sh_cp (fun w Z k => sh_ifnonnull (tgt := 87) dc_Hall_sync_80 (by decide) k) ?_
  refine sh_cp (fun w Z k => sh_aload dc_Hall_sync_87 rfl k) ?_
  refine sh_cget (10 + u18_73) 0 dc_Hall_sync_89 (cw_ow (by omega)) rfl (by decide) fl_Hall_213 rfl rfl rfl rfl ?_
  exact sh_ce (fun w => sh_ireturn dc_Hall_sync_92 rfl rfl (by decide) (by decide))
theorem ct_Hall_sync_Shared_8_1 {A : Nat → Nat} {K : sh_II} {L : sh_DD} {s : Nat} (hs : s < 8) (hk_s : cw_cl (K 12 s) = 7) : sh_cM A md_Hall_sync [.ref (A 0), .int (nI s), .int 8] K L (.inl (some (.int 0))) K L := by
  refine sh_cp (fun w Z k => sh_iload_n dc_Hall_sync_0 rfl rfl k) ?_
  refine sh_cp (fun w Z k => sh_iconst (v := 0) dc_Hall_sync_1 (by decide) k) ?_
  refine sh_cp (fun w Z k => sh_bipush (v := 8) dc_Hall_sync_2 (by decide) k) ?_
  refine sh_ccall (fun w hw => sh_stat (As := [.int 8, .int 0, .int 8]) dc_Hall_sync_4 lm_Hall_checkNumber ln_Hall_39 wd_191 wd_49 rfl rfl (Nat.le_of_ble_eq_true rfl)) (ct_Hall_checkNumber_2 (x := 8) (lo := 0) (hi := 8) (by decide) (by decide)) ⟨(Nat.le_of_ble_eq_true rfl), (Nat.le_of_ble_eq_true rfl), (Nat.le_of_ble_eq_true rfl), (Nat.le_of_ble_eq_true rfl)⟩ ?_
  show sh_cW _ _ (_, _, []) K L _ _ _ _ _
  refine sh_cp (fun w Z k => sh_aload_n dc_Hall_sync_7 rfl rfl k) ?_
  refine sh_cp (fun w Z k => sh_iload_n dc_Hall_sync_8 rfl rfl k) ?_
  refine sh_ccall (fun w hw => sh_virt (As := [.int (nI s)]) dc_Hall_sync_9 lm_Hall_syncAt ln_Hall_73 wd_272 wd_2 rfl rfl (Nat.le_of_ble_eq_true rfl) (hw _ _ cw_o0) rfl) (ct_Hall_syncAt_2 (s := s) (by omega) (cw_nz hk_s (by decide))) ⟨(Nat.le_of_ble_eq_true rfl), (Nat.le_of_ble_eq_true rfl), (Nat.le_of_ble_eq_true rfl), (Nat.le_of_ble_eq_true rfl)⟩ ?_
  show sh_cW _ _ (_, _, [.ref (A (20 + s))]) K L _ _ _ _ _
  refine sh_cp (fun w Z k => sh_astore_n dc_Hall_sync_12 rfl (by decide) k) ?_
  refine sh_cp (fun w Z k => sh_iload_n dc_Hall_sync_13 rfl rfl k) ?_
  refine sh_cp (fun w Z k => sh_lookup (off := 47) (tgt := 61) dc_Hall_sync_14 (by decide) (by decide) (by decide) k) ?_
  refine sh_cp (fun w Z k => sh_aload_n dc_Hall_sync_61 rfl rfl k) ?_
  refine sh_ccall (fun w hw => sh_virtU (As := []) dc_Hall_sync_62 lm_Sync_amount wd_819 wd_821 (Or.inr ⟨_, _, _, wd_820, wd_831⟩) ⟨by decide, by decide⟩ (by decide +kernel) wd_820 wd_830 rfl rfl (Nat.le_of_ble_eq_true rfl) (hw _ _ (cw_oh (by omega) hk_s)) rfl) (ct_Sync_amount_Shared_1 (s := s) (by omega) hk_s) ⟨(Nat.le_of_ble_eq_true rfl), (Nat.le_of_ble_eq_true rfl), (Nat.le_of_ble_eq_true rfl), (Nat.le_of_ble_eq_true rfl)⟩ ?_
  show sh_cW _ _ (_, _, [.int 0]) K L _ _ _ _ _
  exact sh_ce (fun w => sh_ireturn dc_Hall_sync_65 rfl rfl (by decide) (by decide))
theorem ct_Hall_sync_Condition_0_1 {A : Nat → Nat} {K : sh_II} {L : sh_DD} {s : Nat} (hs : s < 8) (hk_s : cw_cl (K 12 s) = 8) : sh_cM A md_Hall_sync [.ref (A 0), .int (nI s), .int 0] K L (.inl (some (.int (K 12 s)))) K L := by
  refine sh_cp (fun w Z k => sh_iload_n dc_Hall_sync_0 rfl rfl k) ?_
  refine sh_cp (fun w Z k => sh_iconst (v := 0) dc_Hall_sync_1 (by decide) k) ?_
  refine sh_cp (fun w Z k => sh_bipush (v := 8) dc_Hall_sync_2 (by decide) k) ?_
  refine sh_ccall (fun w hw => sh_stat (As := [.int 0, .int 0, .int 8]) dc_Hall_sync_4 lm_Hall_checkNumber ln_Hall_39 wd_191 wd_49 rfl rfl (Nat.le_of_ble_eq_true rfl)) (ct_Hall_checkNumber_2 (x := 0) (lo := 0) (hi := 8) (by decide) (by decide)) ⟨(Nat.le_of_ble_eq_true rfl), (Nat.le_of_ble_eq_true rfl), (Nat.le_of_ble_eq_true rfl), (Nat.le_of_ble_eq_true rfl)⟩ ?_
  show sh_cW _ _ (_, _, []) K L _ _ _ _ _
  refine sh_cp (fun w Z k => sh_aload_n dc_Hall_sync_7 rfl rfl k) ?_
  refine sh_cp (fun w Z k => sh_iload_n dc_Hall_sync_8 rfl rfl k) ?_
  refine sh_ccall (fun w hw => sh_virt (As := [.int (nI s)]) dc_Hall_sync_9 lm_Hall_syncAt ln_Hall_73 wd_272 wd_2 rfl rfl (Nat.le_of_ble_eq_true rfl) (hw _ _ cw_o0) rfl) (ct_Hall_syncAt_2 (s := s) (by omega) (cw_nz hk_s (by decide))) ⟨(Nat.le_of_ble_eq_true rfl), (Nat.le_of_ble_eq_true rfl), (Nat.le_of_ble_eq_true rfl), (Nat.le_of_ble_eq_true rfl)⟩ ?_
  show sh_cW _ _ (_, _, [.ref (A (20 + s))]) K L _ _ _ _ _
  refine sh_cp (fun w Z k => sh_astore_n dc_Hall_sync_12 rfl (by decide) k) ?_
  refine sh_cp (fun w Z k => sh_iload_n dc_Hall_sync_13 rfl rfl k) ?_
  refine sh_cp (fun w Z k => sh_lookup (off := 34) (tgt := 48) dc_Hall_sync_14 (by decide) (by decide) (by decide) k) ?_
  refine sh_cp (fun w Z k => sh_aload_n dc_Hall_sync_48 rfl rfl k) ?_
  refine sh_cget (20 + s) 0 dc_Hall_sync_49 (cw_oc (by omega) hk_s) rfl (by decide) fl_Hall_203 rfl rfl rfl rfl ?_
  exact sh_ce (fun w => sh_ireturn dc_Hall_sync_52 rfl rfl (by decide) (by decide))
theorem ct_Hall_sync_Condition_1_1 {A : Nat → Nat} {K : sh_II} {L : sh_DD} {s : Nat} (hs : s < 8) (hk_s : cw_cl (K 12 s) = 8) : sh_cM A md_Hall_sync [.ref (A 0), .int (nI s), .int 1] K L (.inl (some (.int (K 19 s)))) K L := by
  refine sh_cp (fun w Z k => sh_iload_n dc_Hall_sync_0 rfl rfl k) ?_
  refine sh_cp (fun w Z k => sh_iconst (v := 0) dc_Hall_sync_1 (by decide) k) ?_
  refine sh_cp (fun w Z k => sh_bipush (v := 8) dc_Hall_sync_2 (by decide) k) ?_
  refine sh_ccall (fun w hw => sh_stat (As := [.int 1, .int 0, .int 8]) dc_Hall_sync_4 lm_Hall_checkNumber ln_Hall_39 wd_191 wd_49 rfl rfl (Nat.le_of_ble_eq_true rfl)) (ct_Hall_checkNumber_2 (x := 1) (lo := 0) (hi := 8) (by decide) (by decide)) ⟨(Nat.le_of_ble_eq_true rfl), (Nat.le_of_ble_eq_true rfl), (Nat.le_of_ble_eq_true rfl), (Nat.le_of_ble_eq_true rfl)⟩ ?_
  show sh_cW _ _ (_, _, []) K L _ _ _ _ _
  refine sh_cp (fun w Z k => sh_aload_n dc_Hall_sync_7 rfl rfl k) ?_
  refine sh_cp (fun w Z k => sh_iload_n dc_Hall_sync_8 rfl rfl k) ?_
  refine sh_ccall (fun w hw => sh_virt (As := [.int (nI s)]) dc_Hall_sync_9 lm_Hall_syncAt ln_Hall_73 wd_272 wd_2 rfl rfl (Nat.le_of_ble_eq_true rfl) (hw _ _ cw_o0) rfl) (ct_Hall_syncAt_2 (s := s) (by omega) (cw_nz hk_s (by decide))) ⟨(Nat.le_of_ble_eq_true rfl), (Nat.le_of_ble_eq_true rfl), (Nat.le_of_ble_eq_true rfl), (Nat.le_of_ble_eq_true rfl)⟩ ?_
  show sh_cW _ _ (_, _, [.ref (A (20 + s))]) K L _ _ _ _ _
  refine sh_cp (fun w Z k => sh_astore_n dc_Hall_sync_12 rfl (by decide) k) ?_
  refine sh_cp (fun w Z k => sh_iload_n dc_Hall_sync_13 rfl rfl k) ?_
  refine sh_cp (fun w Z k => sh_lookup (off := 39) (tgt := 53) dc_Hall_sync_14 (by decide) (by decide) (by decide) k) ?_
  refine sh_cp (fun w Z k => sh_aload_n dc_Hall_sync_53 rfl rfl k) ?_
  refine sh_cget (20 + s) 1 dc_Hall_sync_54 (cw_oc (by omega) hk_s) rfl (by decide) fl_Hall_206 rfl rfl rfl rfl ?_
  refine sh_ccall (fun w hw => sh_virt (As := []) dc_Hall_sync_57 lm_Waiters_size ln_Hall_134 wd_552 wd_12 rfl rfl (Nat.le_of_ble_eq_true rfl) (hw _ _ (cw_ot (by omega) (cw_nz hk_s (by decide)))) rfl) (ct_Waiters_size_1 (s := s) (by omega) (cw_nz hk_s (by decide))) ⟨(Nat.le_of_ble_eq_true rfl), (Nat.le_of_ble_eq_true rfl), (Nat.le_of_ble_eq_true rfl), (Nat.le_of_ble_eq_true rfl)⟩ ?_
  show sh_cW _ _ (_, _, [.int (K 19 s)]) K L _ _ _ _ _
  exact sh_ce (fun w => sh_ireturn dc_Hall_sync_60 rfl rfl (by decide) (by decide))
theorem ct_Hall_sync_Condition_2_1 {A : Nat → Nat} {K : sh_II} {L : sh_DD} {s : Nat} (hs : s < 8) (hk_s : cw_cl (K 12 s) = 8) (c0_73 : (K 19 s) ≤ 0) : sh_cM A md_Hall_sync [.ref (A 0), .int (nI s), .int 2] K L (.inl (some (.int (-1)))) K L := by
  refine sh_cp (fun w Z k => sh_iload_n dc_Hall_sync_0 rfl rfl k) ?_
  refine sh_cp (fun w Z k => sh_iconst (v := 0) dc_Hall_sync_1 (by decide) k) ?_
  refine sh_cp (fun w Z k => sh_bipush (v := 8) dc_Hall_sync_2 (by decide) k) ?_
  refine sh_ccall (fun w hw => sh_stat (As := [.int 2, .int 0, .int 8]) dc_Hall_sync_4 lm_Hall_checkNumber ln_Hall_39 wd_191 wd_49 rfl rfl (Nat.le_of_ble_eq_true rfl)) (ct_Hall_checkNumber_2 (x := 2) (lo := 0) (hi := 8) (by decide) (by decide)) ⟨(Nat.le_of_ble_eq_true rfl), (Nat.le_of_ble_eq_true rfl), (Nat.le_of_ble_eq_true rfl), (Nat.le_of_ble_eq_true rfl)⟩ ?_
  show sh_cW _ _ (_, _, []) K L _ _ _ _ _
  refine sh_cp (fun w Z k => sh_aload_n dc_Hall_sync_7 rfl rfl k) ?_
  refine sh_cp (fun w Z k => sh_iload_n dc_Hall_sync_8 rfl rfl k) ?_
  refine sh_ccall (fun w hw => sh_virt (As := [.int (nI s)]) dc_Hall_sync_9 lm_Hall_syncAt ln_Hall_73 wd_272 wd_2 rfl rfl (Nat.le_of_ble_eq_true rfl) (hw _ _ cw_o0) rfl) (ct_Hall_syncAt_2 (s := s) (by omega) (cw_nz hk_s (by decide))) ⟨(Nat.le_of_ble_eq_true rfl), (Nat.le_of_ble_eq_true rfl), (Nat.le_of_ble_eq_true rfl), (Nat.le_of_ble_eq_true rfl)⟩ ?_
  show sh_cW _ _ (_, _, [.ref (A (20 + s))]) K L _ _ _ _ _
  refine sh_cp (fun w Z k => sh_astore_n dc_Hall_sync_12 rfl (by decide) k) ?_
  refine sh_cp (fun w Z k => sh_iload_n dc_Hall_sync_13 rfl rfl k) ?_
  refine sh_cp (fun w Z k => sh_lookup (off := 52) (tgt := 66) dc_Hall_sync_14 (by decide) (by decide) (by decide) k) ?_
  refine sh_cp (fun w Z k => sh_aload_n dc_Hall_sync_66 rfl rfl k) ?_
  refine sh_cget (20 + s) 1 dc_Hall_sync_67 (cw_oc (by omega) hk_s) rfl (by decide) fl_Hall_206 rfl rfl rfl rfl ?_
  refine sh_cp (fun w Z k => sh_iload_n dc_Hall_sync_70 rfl rfl k) ?_
  refine sh_cp (fun w Z k => sh_iconst (v := 2) dc_Hall_sync_71 (by decide) k) ?_
  refine sh_cp (fun w Z k => sh_isub dc_Hall_sync_72 k) ?_
  refine sh_cti (show (2 - 2 : Int32) = 0 from by decide) ?_
  refine sh_ccall (fun w hw => sh_virt (As := [.int 0]) dc_Hall_sync_73 lm_Waiters_at ln_Hall_210 wd_690 wd_22 rfl rfl (Nat.le_of_ble_eq_true rfl) (hw _ _ (cw_ot (by omega) (cw_nz hk_s (by decide)))) rfl) (ct_Waiters_at_0_1 (s := s) (by omega) (cw_nz hk_s (by decide)) c0_73) ⟨(Nat.le_of_ble_eq_true rfl), (Nat.le_of_ble_eq_true rfl), (Nat.le_of_ble_eq_true rfl), (Nat.le_of_ble_eq_true rfl)⟩ ?_
  show sh_cW _ _ (_, _, [.null]) K L _ _ _ _ _
  refine sh_cp (fun w Z k => sh_astoreN dc_Hall_sync_76 (by decide) k) ?_
  refine sh_cp (fun w Z k => sh_aloadq (x := none) dc_Hall_sync_78 rfl k) ?_
  show sh_cW _ _ (_, _, .null :: _) _ _ _ _ _ _ _
  refine sh_cp (fun w Z k => sh_ifnonnullN dc_Hall_sync_80 k) ?_
  refine sh_cp (fun w Z k => sh_iconst (v := (-1)) dc_Hall_sync_83 (by decide) k) ?_
  refine sh_cp (fun w Z k => sh_goto_ (tgt := 92) dc_Hall_sync_84 (by decide) k) ?_
  exact sh_ce (fun w => sh_ireturn dc_Hall_sync_92 rfl rfl (by decide) (by decide))
theorem ct_Hall_sync_Condition_2_2 {A : Nat → Nat} {K : sh_II} {L : sh_DD} {s : Nat} (hs : s < 8) (hk_s : cw_cl (K 12 s) = 8) (c0_73 : ¬ (K 19 s) ≤ 0) (c1_73 : (K 18 (6 * s + 0)) = -1) : sh_cM A md_Hall_sync [.ref (A 0), .int (nI s), .int 2] K L (.inl (some (.int (-1)))) K L := by
  refine sh_cp (fun w Z k => sh_iload_n dc_Hall_sync_0 rfl rfl k) ?_
  refine sh_cp (fun w Z k => sh_iconst (v := 0) dc_Hall_sync_1 (by decide) k) ?_
  refine sh_cp (fun w Z k => sh_bipush (v := 8) dc_Hall_sync_2 (by decide) k) ?_
  refine sh_ccall (fun w hw => sh_stat (As := [.int 2, .int 0, .int 8]) dc_Hall_sync_4 lm_Hall_checkNumber ln_Hall_39 wd_191 wd_49 rfl rfl (Nat.le_of_ble_eq_true rfl)) (ct_Hall_checkNumber_2 (x := 2) (lo := 0) (hi := 8) (by decide) (by decide)) ⟨(Nat.le_of_ble_eq_true rfl), (Nat.le_of_ble_eq_true rfl), (Nat.le_of_ble_eq_true rfl), (Nat.le_of_ble_eq_true rfl)⟩ ?_
  show sh_cW _ _ (_, _, []) K L _ _ _ _ _
  refine sh_cp (fun w Z k => sh_aload_n dc_Hall_sync_7 rfl rfl k) ?_
  refine sh_cp (fun w Z k => sh_iload_n dc_Hall_sync_8 rfl rfl k) ?_
  refine sh_ccall (fun w hw => sh_virt (As := [.int (nI s)]) dc_Hall_sync_9 lm_Hall_syncAt ln_Hall_73 wd_272 wd_2 rfl rfl (Nat.le_of_ble_eq_true rfl) (hw _ _ cw_o0) rfl) (ct_Hall_syncAt_2 (s := s) (by omega) (cw_nz hk_s (by decide))) ⟨(Nat.le_of_ble_eq_true rfl), (Nat.le_of_ble_eq_true rfl), (Nat.le_of_ble_eq_true rfl), (Nat.le_of_ble_eq_true rfl)⟩ ?_
  show sh_cW _ _ (_, _, [.ref (A (20 + s))]) K L _ _ _ _ _
  refine sh_cp (fun w Z k => sh_astore_n dc_Hall_sync_12 rfl (by decide) k) ?_
  refine sh_cp (fun w Z k => sh_iload_n dc_Hall_sync_13 rfl rfl k) ?_
  refine sh_cp (fun w Z k => sh_lookup (off := 52) (tgt := 66) dc_Hall_sync_14 (by decide) (by decide) (by decide) k) ?_
  refine sh_cp (fun w Z k => sh_aload_n dc_Hall_sync_66 rfl rfl k) ?_
  refine sh_cget (20 + s) 1 dc_Hall_sync_67 (cw_oc (by omega) hk_s) rfl (by decide) fl_Hall_206 rfl rfl rfl rfl ?_
  refine sh_cp (fun w Z k => sh_iload_n dc_Hall_sync_70 rfl rfl k) ?_
  refine sh_cp (fun w Z k => sh_iconst (v := 2) dc_Hall_sync_71 (by decide) k) ?_
  refine sh_cp (fun w Z k => sh_isub dc_Hall_sync_72 k) ?_
  refine sh_cti (show (2 - 2 : Int32) = 0 from by decide) ?_
  refine sh_ccall (fun w hw => sh_virt (As := [.int 0]) dc_Hall_sync_73 lm_Waiters_at ln_Hall_210 wd_690 wd_22 rfl rfl (Nat.le_of_ble_eq_true rfl) (hw _ _ (cw_ot (by omega) (cw_nz hk_s (by decide)))) rfl) (ct_Waiters_at_0_2 (s := s) (by omega) (cw_nz hk_s (by decide)) c0_73 c1_73) ⟨(Nat.le_of_ble_eq_true rfl), (Nat.le_of_ble_eq_true rfl), (Nat.le_of_ble_eq_true rfl), (Nat.le_of_ble_eq_true rfl)⟩ ?_
  show sh_cW _ _ (_, _, [.null]) K L _ _ _ _ _
  refine sh_cp (fun w Z k => sh_astoreN dc_Hall_sync_76 (by decide) k) ?_
  refine sh_cp (fun w Z k => sh_aloadq (x := none) dc_Hall_sync_78 rfl k) ?_
  show sh_cW _ _ (_, _, .null :: _) _ _ _ _ _ _ _
  refine sh_cp (fun w Z k => sh_ifnonnullN dc_Hall_sync_80 k) ?_
  refine sh_cp (fun w Z k => sh_iconst (v := (-1)) dc_Hall_sync_83 (by decide) k) ?_
  refine sh_cp (fun w Z k => sh_goto_ (tgt := 92) dc_Hall_sync_84 (by decide) k) ?_
  exact sh_ce (fun w => sh_ireturn dc_Hall_sync_92 rfl rfl (by decide) (by decide))
theorem ct_Hall_sync_Condition_2_3 {A : Nat → Nat} {K : sh_II} {L : sh_DD} {s : Nat} {u18_73 : Nat} (hs : s < 8) (hk_s : cw_cl (K 12 s) = 8) (c0_73 : ¬ (K 19 s) ≤ 0) (hu18_73 : u18_73 < 6) (c2_73 : (K 18 (6 * s + 0)) = nI u18_73) : sh_cM A md_Hall_sync [.ref (A 0), .int (nI s), .int 2] K L (.inl (some (.int (nI u18_73)))) K L := by
  refine sh_cp (fun w Z k => sh_iload_n dc_Hall_sync_0 rfl rfl k) ?_
  refine sh_cp (fun w Z k => sh_iconst (v := 0) dc_Hall_sync_1 (by decide) k) ?_
  refine sh_cp (fun w Z k => sh_bipush (v := 8) dc_Hall_sync_2 (by decide) k) ?_
  refine sh_ccall (fun w hw => sh_stat (As := [.int 2, .int 0, .int 8]) dc_Hall_sync_4 lm_Hall_checkNumber ln_Hall_39 wd_191 wd_49 rfl rfl (Nat.le_of_ble_eq_true rfl)) (ct_Hall_checkNumber_2 (x := 2) (lo := 0) (hi := 8) (by decide) (by decide)) ⟨(Nat.le_of_ble_eq_true rfl), (Nat.le_of_ble_eq_true rfl), (Nat.le_of_ble_eq_true rfl), (Nat.le_of_ble_eq_true rfl)⟩ ?_
  show sh_cW _ _ (_, _, []) K L _ _ _ _ _
  refine sh_cp (fun w Z k => sh_aload_n dc_Hall_sync_7 rfl rfl k) ?_
  refine sh_cp (fun w Z k => sh_iload_n dc_Hall_sync_8 rfl rfl k) ?_
  refine sh_ccall (fun w hw => sh_virt (As := [.int (nI s)]) dc_Hall_sync_9 lm_Hall_syncAt ln_Hall_73 wd_272 wd_2 rfl rfl (Nat.le_of_ble_eq_true rfl) (hw _ _ cw_o0) rfl) (ct_Hall_syncAt_2 (s := s) (by omega) (cw_nz hk_s (by decide))) ⟨(Nat.le_of_ble_eq_true rfl), (Nat.le_of_ble_eq_true rfl), (Nat.le_of_ble_eq_true rfl), (Nat.le_of_ble_eq_true rfl)⟩ ?_
  show sh_cW _ _ (_, _, [.ref (A (20 + s))]) K L _ _ _ _ _
  refine sh_cp (fun w Z k => sh_astore_n dc_Hall_sync_12 rfl (by decide) k) ?_
  refine sh_cp (fun w Z k => sh_iload_n dc_Hall_sync_13 rfl rfl k) ?_
  refine sh_cp (fun w Z k => sh_lookup (off := 52) (tgt := 66) dc_Hall_sync_14 (by decide) (by decide) (by decide) k) ?_
  refine sh_cp (fun w Z k => sh_aload_n dc_Hall_sync_66 rfl rfl k) ?_
  refine sh_cget (20 + s) 1 dc_Hall_sync_67 (cw_oc (by omega) hk_s) rfl (by decide) fl_Hall_206 rfl rfl rfl rfl ?_
  refine sh_cp (fun w Z k => sh_iload_n dc_Hall_sync_70 rfl rfl k) ?_
  refine sh_cp (fun w Z k => sh_iconst (v := 2) dc_Hall_sync_71 (by decide) k) ?_
  refine sh_cp (fun w Z k => sh_isub dc_Hall_sync_72 k) ?_
  refine sh_cti (show (2 - 2 : Int32) = 0 from by decide) ?_
  refine sh_ccall (fun w hw => sh_virt (As := [.int 0]) dc_Hall_sync_73 lm_Waiters_at ln_Hall_210 wd_690 wd_22 rfl rfl (Nat.le_of_ble_eq_true rfl) (hw _ _ (cw_ot (by omega) (cw_nz hk_s (by decide)))) rfl) (ct_Waiters_at_0_3 (s := s) (u18_17 := u18_73) (by omega) (cw_nz hk_s (by decide)) c0_73 (by omega) c2_73) ⟨(Nat.le_of_ble_eq_true rfl), (Nat.le_of_ble_eq_true rfl), (Nat.le_of_ble_eq_true rfl), (Nat.le_of_ble_eq_true rfl)⟩ ?_
  show sh_cW _ _ (_, _, [.ref (A (10 + u18_73))]) K L _ _ _ _ _
  refine sh_cp (fun w Z k => sh_astore dc_Hall_sync_76 (by decide) k) ?_
  refine sh_cp (fun w Z k => sh_aload dc_Hall_sync_78 rfl k) ?_
  refine sh_cp (fun w Z k => sh_ifnonnull (tgt := 87) dc_Hall_sync_80 (by decide) k) ?_
  refine sh_cp (fun w Z k => sh_aload dc_Hall_sync_87 rfl k) ?_
  refine sh_cget (10 + u18_73) 0 dc_Hall_sync_89 (cw_ow (by omega)) rfl (by decide) fl_Hall_213 rfl rfl rfl rfl ?_
  exact sh_ce (fun w => sh_ireturn dc_Hall_sync_92 rfl rfl (by decide) (by decide))
theorem ct_Hall_sync_Condition_3_1 {A : Nat → Nat} {K : sh_II} {L : sh_DD} {s : Nat} (hs : s < 8) (hk_s : cw_cl (K 12 s) = 8) (c0_73 : (K 19 s) ≤ (nI 1)) : sh_cM A md_Hall_sync [.ref (A 0), .int (nI s), .int 3] K L (.inl (some (.int (-1)))) K L := by
  refine sh_cp (fun w Z k => sh_iload_n dc_Hall_sync_0 rfl rfl k) ?_
  refine sh_cp (fun w Z k => sh_iconst (v := 0) dc_Hall_sync_1 (by decide) k) ?_
  refine sh_cp (fun w Z k => sh_bipush (v := 8) dc_Hall_sync_2 (by decide) k) ?_
  refine sh_ccall (fun w hw => sh_stat (As := [.int 3, .int 0, .int 8]) dc_Hall_sync_4 lm_Hall_checkNumber ln_Hall_39 wd_191 wd_49 rfl rfl (Nat.le_of_ble_eq_true rfl)) (ct_Hall_checkNumber_2 (x := 3) (lo := 0) (hi := 8) (by decide) (by decide)) ⟨(Nat.le_of_ble_eq_true rfl), (Nat.le_of_ble_eq_true rfl), (Nat.le_of_ble_eq_true rfl), (Nat.le_of_ble_eq_true rfl)⟩ ?_
  show sh_cW _ _ (_, _, []) K L _ _ _ _ _
  refine sh_cp (fun w Z k => sh_aload_n dc_Hall_sync_7 rfl rfl k) ?_
  refine sh_cp (fun w Z k => sh_iload_n dc_Hall_sync_8 rfl rfl k) ?_
  refine sh_ccall (fun w hw => sh_virt (As := [.int (nI s)]) dc_Hall_sync_9 lm_Hall_syncAt ln_Hall_73 wd_272 wd_2 rfl rfl (Nat.le_of_ble_eq_true rfl) (hw _ _ cw_o0) rfl) (ct_Hall_syncAt_2 (s := s) (by omega) (cw_nz hk_s (by decide))) ⟨(Nat.le_of_ble_eq_true rfl), (Nat.le_of_ble_eq_true rfl), (Nat.le_of_ble_eq_true rfl), (Nat.le_of_ble_eq_true rfl)⟩ ?_
  show sh_cW _ _ (_, _, [.ref (A (20 + s))]) K L _ _ _ _ _
  refine sh_cp (fun w Z k => sh_astore_n dc_Hall_sync_12 rfl (by decide) k) ?_
  refine sh_cp (fun w Z k => sh_iload_n dc_Hall_sync_13 rfl rfl k) ?_
  refine sh_cp (fun w Z k => sh_lookup (off := 52) (tgt := 66) dc_Hall_sync_14 (by decide) (by decide) (by decide) k) ?_
  refine sh_cp (fun w Z k => sh_aload_n dc_Hall_sync_66 rfl rfl k) ?_
  refine sh_cget (20 + s) 1 dc_Hall_sync_67 (cw_oc (by omega) hk_s) rfl (by decide) fl_Hall_206 rfl rfl rfl rfl ?_
  refine sh_cp (fun w Z k => sh_iload_n dc_Hall_sync_70 rfl rfl k) ?_
  refine sh_cp (fun w Z k => sh_iconst (v := 2) dc_Hall_sync_71 (by decide) k) ?_
  refine sh_cp (fun w Z k => sh_isub dc_Hall_sync_72 k) ?_
  refine sh_cti (show (3 - 2 : Int32) = 1 from by decide) ?_
  refine sh_ccall (fun w hw => sh_virt (As := [.int 1]) dc_Hall_sync_73 lm_Waiters_at ln_Hall_210 wd_690 wd_22 rfl rfl (Nat.le_of_ble_eq_true rfl) (hw _ _ (cw_ot (by omega) (cw_nz hk_s (by decide)))) rfl) (ct_Waiters_at_1 (s := s) (i := 1) (by omega) (cw_nz hk_s (by decide)) (by omega) c0_73) ⟨(Nat.le_of_ble_eq_true rfl), (Nat.le_of_ble_eq_true rfl), (Nat.le_of_ble_eq_true rfl), (Nat.le_of_ble_eq_true rfl)⟩ ?_
  show sh_cW _ _ (_, _, [.null]) K L _ _ _ _ _
  refine sh_cp (fun w Z k => sh_astoreN dc_Hall_sync_76 (by decide) k) ?_
  refine sh_cp (fun w Z k => sh_aloadq (x := none) dc_Hall_sync_78 rfl k) ?_
  show sh_cW _ _ (_, _, .null :: _) _ _ _ _ _ _ _
  refine sh_cp (fun w Z k => sh_ifnonnullN dc_Hall_sync_80 k) ?_
  refine sh_cp (fun w Z k => sh_iconst (v := (-1)) dc_Hall_sync_83 (by decide) k) ?_
  refine sh_cp (fun w Z k => sh_goto_ (tgt := 92) dc_Hall_sync_84 (by decide) k) ?_
  exact sh_ce (fun w => sh_ireturn dc_Hall_sync_92 rfl rfl (by decide) (by decide))
theorem ct_Hall_sync_Condition_3_2 {A : Nat → Nat} {K : sh_II} {L : sh_DD} {s : Nat} (hs : s < 8) (hk_s : cw_cl (K 12 s) = 8) (c0_73 : ¬ (K 19 s) ≤ (nI 1)) (c1_73 : (K 18 (6 * s + 1)) = -1) : sh_cM A md_Hall_sync [.ref (A 0), .int (nI s), .int 3] K L (.inl (some (.int (-1)))) K L := by
  refine sh_cp (fun w Z k => sh_iload_n dc_Hall_sync_0 rfl rfl k) ?_
  refine sh_cp (fun w Z k => sh_iconst (v := 0) dc_Hall_sync_1 (by decide) k) ?_
  refine sh_cp (fun w Z k => sh_bipush (v := 8) dc_Hall_sync_2 (by decide) k) ?_
  refine sh_ccall (fun w hw => sh_stat (As := [.int 3, .int 0, .int 8]) dc_Hall_sync_4 lm_Hall_checkNumber ln_Hall_39 wd_191 wd_49 rfl rfl (Nat.le_of_ble_eq_true rfl)) (ct_Hall_checkNumber_2 (x := 3) (lo := 0) (hi := 8) (by decide) (by decide)) ⟨(Nat.le_of_ble_eq_true rfl), (Nat.le_of_ble_eq_true rfl), (Nat.le_of_ble_eq_true rfl), (Nat.le_of_ble_eq_true rfl)⟩ ?_
  show sh_cW _ _ (_, _, []) K L _ _ _ _ _
  refine sh_cp (fun w Z k => sh_aload_n dc_Hall_sync_7 rfl rfl k) ?_
  refine sh_cp (fun w Z k => sh_iload_n dc_Hall_sync_8 rfl rfl k) ?_
  refine sh_ccall (fun w hw => sh_virt (As := [.int (nI s)]) dc_Hall_sync_9 lm_Hall_syncAt ln_Hall_73 wd_272 wd_2 rfl rfl (Nat.le_of_ble_eq_true rfl) (hw _ _ cw_o0) rfl) (ct_Hall_syncAt_2 (s := s) (by omega) (cw_nz hk_s (by decide))) ⟨(Nat.le_of_ble_eq_true rfl), (Nat.le_of_ble_eq_true rfl), (Nat.le_of_ble_eq_true rfl), (Nat.le_of_ble_eq_true rfl)⟩ ?_
  show sh_cW _ _ (_, _, [.ref (A (20 + s))]) K L _ _ _ _ _
  refine sh_cp (fun w Z k => sh_astore_n dc_Hall_sync_12 rfl (by decide) k) ?_
  refine sh_cp (fun w Z k => sh_iload_n dc_Hall_sync_13 rfl rfl k) ?_
  refine sh_cp (fun w Z k => sh_lookup (off := 52) (tgt := 66) dc_Hall_sync_14 (by decide) (by decide) (by decide) k) ?_
  refine sh_cp (fun w Z k => sh_aload_n dc_Hall_sync_66 rfl rfl k) ?_
  refine sh_cget (20 + s) 1 dc_Hall_sync_67 (cw_oc (by omega) hk_s) rfl (by decide) fl_Hall_206 rfl rfl rfl rfl ?_
  refine sh_cp (fun w Z k => sh_iload_n dc_Hall_sync_70 rfl rfl k) ?_
  refine sh_cp (fun w Z k => sh_iconst (v := 2) dc_Hall_sync_71 (by decide) k) ?_
  refine sh_cp (fun w Z k => sh_isub dc_Hall_sync_72 k) ?_
  refine sh_cti (show (3 - 2 : Int32) = 1 from by decide) ?_
  refine sh_ccall (fun w hw => sh_virt (As := [.int 1]) dc_Hall_sync_73 lm_Waiters_at ln_Hall_210 wd_690 wd_22 rfl rfl (Nat.le_of_ble_eq_true rfl) (hw _ _ (cw_ot (by omega) (cw_nz hk_s (by decide)))) rfl) (ct_Waiters_at_2 (s := s) (i := 1) (by omega) (cw_nz hk_s (by decide)) (by omega) c0_73 c1_73) ⟨(Nat.le_of_ble_eq_true rfl), (Nat.le_of_ble_eq_true rfl), (Nat.le_of_ble_eq_true rfl), (Nat.le_of_ble_eq_true rfl)⟩ ?_
  show sh_cW _ _ (_, _, [.null]) K L _ _ _ _ _
  refine sh_cp (fun w Z k => sh_astoreN dc_Hall_sync_76 (by decide) k) ?_
  refine sh_cp (fun w Z k => sh_aloadq (x := none) dc_Hall_sync_78 rfl k) ?_
  show sh_cW _ _ (_, _, .null :: _) _ _ _ _ _ _ _
  refine sh_cp (fun w Z k => sh_ifnonnullN dc_Hall_sync_80 k) ?_
  refine sh_cp (fun w Z k => sh_iconst (v := (-1)) dc_Hall_sync_83 (by decide) k) ?_
  refine sh_cp (fun w Z k => sh_goto_ (tgt := 92) dc_Hall_sync_84 (by decide) k) ?_
  exact sh_ce (fun w => sh_ireturn dc_Hall_sync_92 rfl rfl (by decide) (by decide))
theorem ct_Hall_sync_Condition_3_3 {A : Nat → Nat} {K : sh_II} {L : sh_DD} {s : Nat} {u18_73 : Nat} (hs : s < 8) (hk_s : cw_cl (K 12 s) = 8) (c0_73 : ¬ (K 19 s) ≤ (nI 1)) (hu18_73 : u18_73 < 6) (c2_73 : (K 18 (6 * s + 1)) = nI u18_73) : sh_cM A md_Hall_sync [.ref (A 0), .int (nI s), .int 3] K L (.inl (some (.int (nI u18_73)))) K L := by
  refine sh_cp (fun w Z k => sh_iload_n dc_Hall_sync_0 rfl rfl k) ?_
  refine sh_cp (fun w Z k => sh_iconst (v := 0) dc_Hall_sync_1 (by decide) k) ?_
  refine sh_cp (fun w Z k => sh_bipush (v := 8) dc_Hall_sync_2 (by decide) k) ?_
  refine sh_ccall (fun w hw => sh_stat (As := [.int 3, .int 0, .int 8]) dc_Hall_sync_4 lm_Hall_checkNumber ln_Hall_39 wd_191 wd_49 rfl rfl (Nat.le_of_ble_eq_true rfl)) (ct_Hall_checkNumber_2 (x := 3) (lo := 0) (hi := 8) (by decide) (by decide)) ⟨(Nat.le_of_ble_eq_true rfl), (Nat.le_of_ble_eq_true rfl), (Nat.le_of_ble_eq_true rfl), (Nat.le_of_ble_eq_true rfl)⟩ ?_
  show sh_cW _ _ (_, _, []) K L _ _ _ _ _
  refine sh_cp (fun w Z k => sh_aload_n dc_Hall_sync_7 rfl rfl k) ?_
  refine sh_cp (fun w Z k => sh_iload_n dc_Hall_sync_8 rfl rfl k) ?_
  refine sh_ccall (fun w hw => sh_virt (As := [.int (nI s)]) dc_Hall_sync_9 lm_Hall_syncAt ln_Hall_73 wd_272 wd_2 rfl rfl (Nat.le_of_ble_eq_true rfl) (hw _ _ cw_o0) rfl) (ct_Hall_syncAt_2 (s := s) (by omega) (cw_nz hk_s (by decide))) ⟨(Nat.le_of_ble_eq_true rfl), (Nat.le_of_ble_eq_true rfl), (Nat.le_of_ble_eq_true rfl), (Nat.le_of_ble_eq_true rfl)⟩ ?_
  show sh_cW _ _ (_, _, [.ref (A (20 + s))]) K L _ _ _ _ _
  refine sh_cp (fun w Z k => sh_astore_n dc_Hall_sync_12 rfl (by decide) k) ?_
  refine sh_cp (fun w Z k => sh_iload_n dc_Hall_sync_13 rfl rfl k) ?_
  refine sh_cp (fun w Z k => sh_lookup (off := 52) (tgt := 66) dc_Hall_sync_14 (by decide) (by decide) (by decide) k) ?_
  refine sh_cp (fun w Z k => sh_aload_n dc_Hall_sync_66 rfl rfl k) ?_
  refine sh_cget (20 + s) 1 dc_Hall_sync_67 (cw_oc (by omega) hk_s) rfl (by decide) fl_Hall_206 rfl rfl rfl rfl ?_
  refine sh_cp (fun w Z k => sh_iload_n dc_Hall_sync_70 rfl rfl k) ?_
  refine sh_cp (fun w Z k => sh_iconst (v := 2) dc_Hall_sync_71 (by decide) k) ?_
  refine sh_cp (fun w Z k => sh_isub dc_Hall_sync_72 k) ?_
  refine sh_cti (show (3 - 2 : Int32) = 1 from by decide) ?_
  refine sh_ccall (fun w hw => sh_virt (As := [.int 1]) dc_Hall_sync_73 lm_Waiters_at ln_Hall_210 wd_690 wd_22 rfl rfl (Nat.le_of_ble_eq_true rfl) (hw _ _ (cw_ot (by omega) (cw_nz hk_s (by decide)))) rfl) (ct_Waiters_at_3 (s := s) (i := 1) (u18_17 := u18_73) (by omega) (cw_nz hk_s (by decide)) (by omega) c0_73 (by omega) c2_73) ⟨(Nat.le_of_ble_eq_true rfl), (Nat.le_of_ble_eq_true rfl), (Nat.le_of_ble_eq_true rfl), (Nat.le_of_ble_eq_true rfl)⟩ ?_
  show sh_cW _ _ (_, _, [.ref (A (10 + u18_73))]) K L _ _ _ _ _
  refine sh_cp (fun w Z k => sh_astore dc_Hall_sync_76 (by decide) k) ?_
  refine sh_cp (fun w Z k => sh_aload dc_Hall_sync_78 rfl k) ?_
  refine sh_cp (fun w Z k => sh_ifnonnull (tgt := 87) dc_Hall_sync_80 (by decide) k) ?_
  refine sh_cp (fun w Z k => sh_aload dc_Hall_sync_87 rfl k) ?_
  refine sh_cget (10 + u18_73) 0 dc_Hall_sync_89 (cw_ow (by omega)) rfl (by decide) fl_Hall_213 rfl rfl rfl rfl ?_
  exact sh_ce (fun w => sh_ireturn dc_Hall_sync_92 rfl rfl (by decide) (by decide))
theorem ct_Hall_sync_Condition_4_1 {A : Nat → Nat} {K : sh_II} {L : sh_DD} {s : Nat} (hs : s < 8) (hk_s : cw_cl (K 12 s) = 8) (c0_73 : (K 19 s) ≤ (nI 2)) : sh_cM A md_Hall_sync [.ref (A 0), .int (nI s), .int 4] K L (.inl (some (.int (-1)))) K L := by
  refine sh_cp (fun w Z k => sh_iload_n dc_Hall_sync_0 rfl rfl k) ?_
  refine sh_cp (fun w Z k => sh_iconst (v := 0) dc_Hall_sync_1 (by decide) k) ?_
  refine sh_cp (fun w Z k => sh_bipush (v := 8) dc_Hall_sync_2 (by decide) k) ?_
  refine sh_ccall (fun w hw => sh_stat (As := [.int 4, .int 0, .int 8]) dc_Hall_sync_4 lm_Hall_checkNumber ln_Hall_39 wd_191 wd_49 rfl rfl (Nat.le_of_ble_eq_true rfl)) (ct_Hall_checkNumber_2 (x := 4) (lo := 0) (hi := 8) (by decide) (by decide)) ⟨(Nat.le_of_ble_eq_true rfl), (Nat.le_of_ble_eq_true rfl), (Nat.le_of_ble_eq_true rfl), (Nat.le_of_ble_eq_true rfl)⟩ ?_
  show sh_cW _ _ (_, _, []) K L _ _ _ _ _
  refine sh_cp (fun w Z k => sh_aload_n dc_Hall_sync_7 rfl rfl k) ?_
  refine sh_cp (fun w Z k => sh_iload_n dc_Hall_sync_8 rfl rfl k) ?_
  refine sh_ccall (fun w hw => sh_virt (As := [.int (nI s)]) dc_Hall_sync_9 lm_Hall_syncAt ln_Hall_73 wd_272 wd_2 rfl rfl (Nat.le_of_ble_eq_true rfl) (hw _ _ cw_o0) rfl) (ct_Hall_syncAt_2 (s := s) (by omega) (cw_nz hk_s (by decide))) ⟨(Nat.le_of_ble_eq_true rfl), (Nat.le_of_ble_eq_true rfl), (Nat.le_of_ble_eq_true rfl), (Nat.le_of_ble_eq_true rfl)⟩ ?_
  show sh_cW _ _ (_, _, [.ref (A (20 + s))]) K L _ _ _ _ _
  refine sh_cp (fun w Z k => sh_astore_n dc_Hall_sync_12 rfl (by decide) k) ?_
  refine sh_cp (fun w Z k => sh_iload_n dc_Hall_sync_13 rfl rfl k) ?_
  refine sh_cp (fun w Z k => sh_lookup (off := 52) (tgt := 66) dc_Hall_sync_14 (by decide) (by decide) (by decide) k) ?_
  refine sh_cp (fun w Z k => sh_aload_n dc_Hall_sync_66 rfl rfl k) ?_
  refine sh_cget (20 + s) 1 dc_Hall_sync_67 (cw_oc (by omega) hk_s) rfl (by decide) fl_Hall_206 rfl rfl rfl rfl ?_
  refine sh_cp (fun w Z k => sh_iload_n dc_Hall_sync_70 rfl rfl k) ?_
  refine sh_cp (fun w Z k => sh_iconst (v := 2) dc_Hall_sync_71 (by decide) k) ?_
  refine sh_cp (fun w Z k => sh_isub dc_Hall_sync_72 k) ?_
  refine sh_cti (show (4 - 2 : Int32) = 2 from by decide) ?_
  refine sh_ccall (fun w hw => sh_virt (As := [.int 2]) dc_Hall_sync_73 lm_Waiters_at ln_Hall_210 wd_690 wd_22 rfl rfl (Nat.le_of_ble_eq_true rfl) (hw _ _ (cw_ot (by omega) (cw_nz hk_s (by decide)))) rfl) (ct_Waiters_at_1 (s := s) (i := 2) (by omega) (cw_nz hk_s (by decide)) (by omega) c0_73) ⟨(Nat.le_of_ble_eq_true rfl), (Nat.le_of_ble_eq_true rfl), (Nat.le_of_ble_eq_true rfl), (Nat.le_of_ble_eq_true rfl)⟩ ?_
  show sh_cW _ _ (_, _, [.null]) K L _ _ _ _ _
  refine sh_cp (fun w Z k => sh_astoreN dc_Hall_sync_76 (by decide) k) ?_
  refine sh_cp (fun w Z k => sh_aloadq (x := none) dc_Hall_sync_78 rfl k) ?_
  show sh_cW _ _ (_, _, .null :: _) _ _ _ _ _ _ _
  refine sh_cp (fun w Z k => sh_ifnonnullN dc_Hall_sync_80 k) ?_
  refine sh_cp (fun w Z k => sh_iconst (v := (-1)) dc_Hall_sync_83 (by decide) k) ?_
  refine sh_cp (fun w Z k => sh_goto_ (tgt := 92) dc_Hall_sync_84 (by decide) k) ?_
  exact sh_ce (fun w => sh_ireturn dc_Hall_sync_92 rfl rfl (by decide) (by decide))
theorem ct_Hall_sync_Condition_4_2 {A : Nat → Nat} {K : sh_II} {L : sh_DD} {s : Nat} (hs : s < 8) (hk_s : cw_cl (K 12 s) = 8) (c0_73 : ¬ (K 19 s) ≤ (nI 2)) (c1_73 : (K 18 (6 * s + 2)) = -1) : sh_cM A md_Hall_sync [.ref (A 0), .int (nI s), .int 4] K L (.inl (some (.int (-1)))) K L := by
  refine sh_cp (fun w Z k => sh_iload_n dc_Hall_sync_0 rfl rfl k) ?_
  refine sh_cp (fun w Z k => sh_iconst (v := 0) dc_Hall_sync_1 (by decide) k) ?_
  refine sh_cp (fun w Z k => sh_bipush (v := 8) dc_Hall_sync_2 (by decide) k) ?_
  refine sh_ccall (fun w hw => sh_stat (As := [.int 4, .int 0, .int 8]) dc_Hall_sync_4 lm_Hall_checkNumber ln_Hall_39 wd_191 wd_49 rfl rfl (Nat.le_of_ble_eq_true rfl)) (ct_Hall_checkNumber_2 (x := 4) (lo := 0) (hi := 8) (by decide) (by decide)) ⟨(Nat.le_of_ble_eq_true rfl), (Nat.le_of_ble_eq_true rfl), (Nat.le_of_ble_eq_true rfl), (Nat.le_of_ble_eq_true rfl)⟩ ?_
  show sh_cW _ _ (_, _, []) K L _ _ _ _ _
  refine sh_cp (fun w Z k => sh_aload_n dc_Hall_sync_7 rfl rfl k) ?_
  refine sh_cp (fun w Z k => sh_iload_n dc_Hall_sync_8 rfl rfl k) ?_
  refine sh_ccall (fun w hw => sh_virt (As := [.int (nI s)]) dc_Hall_sync_9 lm_Hall_syncAt ln_Hall_73 wd_272 wd_2 rfl rfl (Nat.le_of_ble_eq_true rfl) (hw _ _ cw_o0) rfl) (ct_Hall_syncAt_2 (s := s) (by omega) (cw_nz hk_s (by decide))) ⟨(Nat.le_of_ble_eq_true rfl), (Nat.le_of_ble_eq_true rfl), (Nat.le_of_ble_eq_true rfl), (Nat.le_of_ble_eq_true rfl)⟩ ?_
  show sh_cW _ _ (_, _, [.ref (A (20 + s))]) K L _ _ _ _ _
  refine sh_cp (fun w Z k => sh_astore_n dc_Hall_sync_12 rfl (by decide) k) ?_
  refine sh_cp (fun w Z k => sh_iload_n dc_Hall_sync_13 rfl rfl k) ?_
  refine sh_cp (fun w Z k => sh_lookup (off := 52) (tgt := 66) dc_Hall_sync_14 (by decide) (by decide) (by decide) k) ?_
  refine sh_cp (fun w Z k => sh_aload_n dc_Hall_sync_66 rfl rfl k) ?_
  refine sh_cget (20 + s) 1 dc_Hall_sync_67 (cw_oc (by omega) hk_s) rfl (by decide) fl_Hall_206 rfl rfl rfl rfl ?_
  refine sh_cp (fun w Z k => sh_iload_n dc_Hall_sync_70 rfl rfl k) ?_
  refine sh_cp (fun w Z k => sh_iconst (v := 2) dc_Hall_sync_71 (by decide) k) ?_
  refine sh_cp (fun w Z k => sh_isub dc_Hall_sync_72 k) ?_
  refine sh_cti (show (4 - 2 : Int32) = 2 from by decide) ?_
  refine sh_ccall (fun w hw => sh_virt (As := [.int 2]) dc_Hall_sync_73 lm_Waiters_at ln_Hall_210 wd_690 wd_22 rfl rfl (Nat.le_of_ble_eq_true rfl) (hw _ _ (cw_ot (by omega) (cw_nz hk_s (by decide)))) rfl) (ct_Waiters_at_2 (s := s) (i := 2) (by omega) (cw_nz hk_s (by decide)) (by omega) c0_73 c1_73) ⟨(Nat.le_of_ble_eq_true rfl), (Nat.le_of_ble_eq_true rfl), (Nat.le_of_ble_eq_true rfl), (Nat.le_of_ble_eq_true rfl)⟩ ?_
  show sh_cW _ _ (_, _, [.null]) K L _ _ _ _ _
  refine sh_cp (fun w Z k => sh_astoreN dc_Hall_sync_76 (by decide) k) ?_
  refine sh_cp (fun w Z k => sh_aloadq (x := none) dc_Hall_sync_78 rfl k) ?_
  show sh_cW _ _ (_, _, .null :: _) _ _ _ _ _ _ _
  refine sh_cp (fun w Z k => sh_ifnonnullN dc_Hall_sync_80 k) ?_
  refine sh_cp (fun w Z k => sh_iconst (v := (-1)) dc_Hall_sync_83 (by decide) k) ?_
  refine sh_cp (fun w Z k => sh_goto_ (tgt := 92) dc_Hall_sync_84 (by decide) k) ?_
  exact sh_ce (fun w => sh_ireturn dc_Hall_sync_92 rfl rfl (by decide) (by decide))
theorem ct_Hall_sync_Condition_4_3 {A : Nat → Nat} {K : sh_II} {L : sh_DD} {s : Nat} {u18_73 : Nat} (hs : s < 8) (hk_s : cw_cl (K 12 s) = 8) (c0_73 : ¬ (K 19 s) ≤ (nI 2)) (hu18_73 : u18_73 < 6) (c2_73 : (K 18 (6 * s + 2)) = nI u18_73) : sh_cM A md_Hall_sync [.ref (A 0), .int (nI s), .int 4] K L (.inl (some (.int (nI u18_73)))) K L := by
  refine sh_cp (fun w Z k => sh_iload_n dc_Hall_sync_0 rfl rfl k) ?_
  refine sh_cp (fun w Z k => sh_iconst (v := 0) dc_Hall_sync_1 (by decide) k) ?_
  refine sh_cp (fun w Z k => sh_bipush (v := 8) dc_Hall_sync_2 (by decide) k) ?_
  refine sh_ccall (fun w hw => sh_stat (As := [.int 4, .int 0, .int 8]) dc_Hall_sync_4 lm_Hall_checkNumber ln_Hall_39 wd_191 wd_49 rfl rfl (Nat.le_of_ble_eq_true rfl)) (ct_Hall_checkNumber_2 (x := 4) (lo := 0) (hi := 8) (by decide) (by decide)) ⟨(Nat.le_of_ble_eq_true rfl), (Nat.le_of_ble_eq_true rfl), (Nat.le_of_ble_eq_true rfl), (Nat.le_of_ble_eq_true rfl)⟩ ?_
  show sh_cW _ _ (_, _, []) K L _ _ _ _ _
  refine sh_cp (fun w Z k => sh_aload_n dc_Hall_sync_7 rfl rfl k) ?_
  refine sh_cp (fun w Z k => sh_iload_n dc_Hall_sync_8 rfl rfl k) ?_
  refine sh_ccall (fun w hw => sh_virt (As := [.int (nI s)]) dc_Hall_sync_9 lm_Hall_syncAt ln_Hall_73 wd_272 wd_2 rfl rfl (Nat.le_of_ble_eq_true rfl) (hw _ _ cw_o0) rfl) (ct_Hall_syncAt_2 (s := s) (by omega) (cw_nz hk_s (by decide))) ⟨(Nat.le_of_ble_eq_true rfl), (Nat.le_of_ble_eq_true rfl), (Nat.le_of_ble_eq_true rfl), (Nat.le_of_ble_eq_true rfl)⟩ ?_
  show sh_cW _ _ (_, _, [.ref (A (20 + s))]) K L _ _ _ _ _
  refine sh_cp (fun w Z k => sh_astore_n dc_Hall_sync_12 rfl (by decide) k) ?_
  refine sh_cp (fun w Z k => sh_iload_n dc_Hall_sync_13 rfl rfl k) ?_
  refine sh_cp (fun w Z k => sh_lookup (off := 52) (tgt := 66) dc_Hall_sync_14 (by decide) (by decide) (by decide) k) ?_
  refine sh_cp (fun w Z k => sh_aload_n dc_Hall_sync_66 rfl rfl k) ?_
  refine sh_cget (20 + s) 1 dc_Hall_sync_67 (cw_oc (by omega) hk_s) rfl (by decide) fl_Hall_206 rfl rfl rfl rfl ?_
  refine sh_cp (fun w Z k => sh_iload_n dc_Hall_sync_70 rfl rfl k) ?_
  refine sh_cp (fun w Z k => sh_iconst (v := 2) dc_Hall_sync_71 (by decide) k) ?_
  refine sh_cp (fun w Z k => sh_isub dc_Hall_sync_72 k) ?_
  refine sh_cti (show (4 - 2 : Int32) = 2 from by decide) ?_
  refine sh_ccall (fun w hw => sh_virt (As := [.int 2]) dc_Hall_sync_73 lm_Waiters_at ln_Hall_210 wd_690 wd_22 rfl rfl (Nat.le_of_ble_eq_true rfl) (hw _ _ (cw_ot (by omega) (cw_nz hk_s (by decide)))) rfl) (ct_Waiters_at_3 (s := s) (i := 2) (u18_17 := u18_73) (by omega) (cw_nz hk_s (by decide)) (by omega) c0_73 (by omega) c2_73) ⟨(Nat.le_of_ble_eq_true rfl), (Nat.le_of_ble_eq_true rfl), (Nat.le_of_ble_eq_true rfl), (Nat.le_of_ble_eq_true rfl)⟩ ?_
  show sh_cW _ _ (_, _, [.ref (A (10 + u18_73))]) K L _ _ _ _ _
  refine sh_cp (fun w Z k => sh_astore dc_Hall_sync_76 (by decide) k) ?_
  refine sh_cp (fun w Z k => sh_aload dc_Hall_sync_78 rfl k) ?_
  refine sh_cp (fun w Z k => sh_ifnonnull (tgt := 87) dc_Hall_sync_80 (by decide) k) ?_
  refine sh_cp (fun w Z k => sh_aload dc_Hall_sync_87 rfl k) ?_
  refine sh_cget (10 + u18_73) 0 dc_Hall_sync_89 (cw_ow (by omega)) rfl (by decide) fl_Hall_213 rfl rfl rfl rfl ?_
  exact sh_ce (fun w => sh_ireturn dc_Hall_sync_92 rfl rfl (by decide) (by decide))
theorem ct_Hall_sync_Condition_5_1 {A : Nat → Nat} {K : sh_II} {L : sh_DD} {s : Nat} (hs : s < 8) (hk_s : cw_cl (K 12 s) = 8) (c0_73 : (K 19 s) ≤ (nI 3)) : sh_cM A md_Hall_sync [.ref (A 0), .int (nI s), .int 5] K L (.inl (some (.int (-1)))) K L := by
  refine sh_cp (fun w Z k => sh_iload_n dc_Hall_sync_0 rfl rfl k) ?_
  refine sh_cp (fun w Z k => sh_iconst (v := 0) dc_Hall_sync_1 (by decide) k) ?_
  refine sh_cp (fun w Z k => sh_bipush (v := 8) dc_Hall_sync_2 (by decide) k) ?_
  refine sh_ccall (fun w hw => sh_stat (As := [.int 5, .int 0, .int 8]) dc_Hall_sync_4 lm_Hall_checkNumber ln_Hall_39 wd_191 wd_49 rfl rfl (Nat.le_of_ble_eq_true rfl)) (ct_Hall_checkNumber_2 (x := 5) (lo := 0) (hi := 8) (by decide) (by decide)) ⟨(Nat.le_of_ble_eq_true rfl), (Nat.le_of_ble_eq_true rfl), (Nat.le_of_ble_eq_true rfl), (Nat.le_of_ble_eq_true rfl)⟩ ?_
  show sh_cW _ _ (_, _, []) K L _ _ _ _ _
  refine sh_cp (fun w Z k => sh_aload_n dc_Hall_sync_7 rfl rfl k) ?_
  refine sh_cp (fun w Z k => sh_iload_n dc_Hall_sync_8 rfl rfl k) ?_
  refine sh_ccall (fun w hw => sh_virt (As := [.int (nI s)]) dc_Hall_sync_9 lm_Hall_syncAt ln_Hall_73 wd_272 wd_2 rfl rfl (Nat.le_of_ble_eq_true rfl) (hw _ _ cw_o0) rfl) (ct_Hall_syncAt_2 (s := s) (by omega) (cw_nz hk_s (by decide))) ⟨(Nat.le_of_ble_eq_true rfl), (Nat.le_of_ble_eq_true rfl), (Nat.le_of_ble_eq_true rfl), (Nat.le_of_ble_eq_true rfl)⟩ ?_
  show sh_cW _ _ (_, _, [.ref (A (20 + s))]) K L _ _ _ _ _
  refine sh_cp (fun w Z k => sh_astore_n dc_Hall_sync_12 rfl (by decide) k) ?_
  refine sh_cp (fun w Z k => sh_iload_n dc_Hall_sync_13 rfl rfl k) ?_
  refine sh_cp (fun w Z k => sh_lookup (off := 52) (tgt := 66) dc_Hall_sync_14 (by decide) (by decide) (by decide) k) ?_
  refine sh_cp (fun w Z k => sh_aload_n dc_Hall_sync_66 rfl rfl k) ?_
  refine sh_cget (20 + s) 1 dc_Hall_sync_67 (cw_oc (by omega) hk_s) rfl (by decide) fl_Hall_206 rfl rfl rfl rfl ?_
  refine sh_cp (fun w Z k => sh_iload_n dc_Hall_sync_70 rfl rfl k) ?_
  refine sh_cp (fun w Z k => sh_iconst (v := 2) dc_Hall_sync_71 (by decide) k) ?_
  refine sh_cp (fun w Z k => sh_isub dc_Hall_sync_72 k) ?_
  refine sh_cti (show (5 - 2 : Int32) = 3 from by decide) ?_
  refine sh_ccall (fun w hw => sh_virt (As := [.int 3]) dc_Hall_sync_73 lm_Waiters_at ln_Hall_210 wd_690 wd_22 rfl rfl (Nat.le_of_ble_eq_true rfl) (hw _ _ (cw_ot (by omega) (cw_nz hk_s (by decide)))) rfl) (ct_Waiters_at_1 (s := s) (i := 3) (by omega) (cw_nz hk_s (by decide)) (by omega) c0_73) ⟨(Nat.le_of_ble_eq_true rfl), (Nat.le_of_ble_eq_true rfl), (Nat.le_of_ble_eq_true rfl), (Nat.le_of_ble_eq_true rfl)⟩ ?_
  show sh_cW _ _ (_, _, [.null]) K L _ _ _ _ _
  refine sh_cp (fun w Z k => sh_astoreN dc_Hall_sync_76 (by decide) k) ?_
  refine sh_cp (fun w Z k => sh_aloadq (x := none) dc_Hall_sync_78 rfl k) ?_
  show sh_cW _ _ (_, _, .null :: _) _ _ _ _ _ _ _
  refine sh_cp (fun w Z k => sh_ifnonnullN dc_Hall_sync_80 k) ?_
  refine sh_cp (fun w Z k => sh_iconst (v := (-1)) dc_Hall_sync_83 (by decide) k) ?_
  refine sh_cp (fun w Z k => sh_goto_ (tgt := 92) dc_Hall_sync_84 (by decide) k) ?_
  exact sh_ce (fun w => sh_ireturn dc_Hall_sync_92 rfl rfl (by decide) (by decide))
theorem ct_Hall_sync_Condition_5_2 {A : Nat → Nat} {K : sh_II} {L : sh_DD} {s : Nat} (hs : s < 8) (hk_s : cw_cl (K 12 s) = 8) (c0_73 : ¬ (K 19 s) ≤ (nI 3)) (c1_73 : (K 18 (6 * s + 3)) = -1) : sh_cM A md_Hall_sync [.ref (A 0), .int (nI s), .int 5] K L (.inl (some (.int (-1)))) K L := by
  refine sh_cp (fun w Z k => sh_iload_n dc_Hall_sync_0 rfl rfl k) ?_
  refine sh_cp (fun w Z k => sh_iconst (v := 0) dc_Hall_sync_1 (by decide) k) ?_
  refine sh_cp (fun w Z k => sh_bipush (v := 8) dc_Hall_sync_2 (by decide) k) ?_
  refine sh_ccall (fun w hw => sh_stat (As := [.int 5, .int 0, .int 8]) dc_Hall_sync_4 lm_Hall_checkNumber ln_Hall_39 wd_191 wd_49 rfl rfl (Nat.le_of_ble_eq_true rfl)) (ct_Hall_checkNumber_2 (x := 5) (lo := 0) (hi := 8) (by decide) (by decide)) ⟨(Nat.le_of_ble_eq_true rfl), (Nat.le_of_ble_eq_true rfl), (Nat.le_of_ble_eq_true rfl), (Nat.le_of_ble_eq_true rfl)⟩ ?_
  show sh_cW _ _ (_, _, []) K L _ _ _ _ _
  refine sh_cp (fun w Z k => sh_aload_n dc_Hall_sync_7 rfl rfl k) ?_
  refine sh_cp (fun w Z k => sh_iload_n dc_Hall_sync_8 rfl rfl k) ?_
  refine sh_ccall (fun w hw => sh_virt (As := [.int (nI s)]) dc_Hall_sync_9 lm_Hall_syncAt ln_Hall_73 wd_272 wd_2 rfl rfl (Nat.le_of_ble_eq_true rfl) (hw _ _ cw_o0) rfl) (ct_Hall_syncAt_2 (s := s) (by omega) (cw_nz hk_s (by decide))) ⟨(Nat.le_of_ble_eq_true rfl), (Nat.le_of_ble_eq_true rfl), (Nat.le_of_ble_eq_true rfl), (Nat.le_of_ble_eq_true rfl)⟩ ?_
  show sh_cW _ _ (_, _, [.ref (A (20 + s))]) K L _ _ _ _ _
  refine sh_cp (fun w Z k => sh_astore_n dc_Hall_sync_12 rfl (by decide) k) ?_
  refine sh_cp (fun w Z k => sh_iload_n dc_Hall_sync_13 rfl rfl k) ?_
  refine sh_cp (fun w Z k => sh_lookup (off := 52) (tgt := 66) dc_Hall_sync_14 (by decide) (by decide) (by decide) k) ?_
  refine sh_cp (fun w Z k => sh_aload_n dc_Hall_sync_66 rfl rfl k) ?_
  refine sh_cget (20 + s) 1 dc_Hall_sync_67 (cw_oc (by omega) hk_s) rfl (by decide) fl_Hall_206 rfl rfl rfl rfl ?_
  refine sh_cp (fun w Z k => sh_iload_n dc_Hall_sync_70 rfl rfl k) ?_
  refine sh_cp (fun w Z k => sh_iconst (v := 2) dc_Hall_sync_71 (by decide) k) ?_
  refine sh_cp (fun w Z k => sh_isub dc_Hall_sync_72 k) ?_
  refine sh_cti (show (5 - 2 : Int32) = 3 from by decide) ?_
  refine sh_ccall (fun w hw => sh_virt (As := [.int 3]) dc_Hall_sync_73 lm_Waiters_at ln_Hall_210 wd_690 wd_22 rfl rfl (Nat.le_of_ble_eq_true rfl) (hw _ _ (cw_ot (by omega) (cw_nz hk_s (by decide)))) rfl) (ct_Waiters_at_2 (s := s) (i := 3) (by omega) (cw_nz hk_s (by decide)) (by omega) c0_73 c1_73) ⟨(Nat.le_of_ble_eq_true rfl), (Nat.le_of_ble_eq_true rfl), (Nat.le_of_ble_eq_true rfl), (Nat.le_of_ble_eq_true rfl)⟩ ?_
  show sh_cW _ _ (_, _, [.null]) K L _ _ _ _ _
  refine sh_cp (fun w Z k => sh_astoreN dc_Hall_sync_76 (by decide) k) ?_
  refine sh_cp (fun w Z k => sh_aloadq (x := none) dc_Hall_sync_78 rfl k) ?_
  show sh_cW _ _ (_, _, .null :: _) _ _ _ _ _ _ _
  refine sh_cp (fun w Z k => sh_ifnonnullN dc_Hall_sync_80 k) ?_
  refine sh_cp (fun w Z k => sh_iconst (v := (-1)) dc_Hall_sync_83 (by decide) k) ?_
  refine sh_cp (fun w Z k => sh_goto_ (tgt := 92) dc_Hall_sync_84 (by decide) k) ?_
  exact sh_ce (fun w => sh_ireturn dc_Hall_sync_92 rfl rfl (by decide) (by decide))
theorem ct_Hall_sync_Condition_5_3 {A : Nat → Nat} {K : sh_II} {L : sh_DD} {s : Nat} {u18_73 : Nat} (hs : s < 8) (hk_s : cw_cl (K 12 s) = 8) (c0_73 : ¬ (K 19 s) ≤ (nI 3)) (hu18_73 : u18_73 < 6) (c2_73 : (K 18 (6 * s + 3)) = nI u18_73) : sh_cM A md_Hall_sync [.ref (A 0), .int (nI s), .int 5] K L (.inl (some (.int (nI u18_73)))) K L := by
  refine sh_cp (fun w Z k => sh_iload_n dc_Hall_sync_0 rfl rfl k) ?_
  refine sh_cp (fun w Z k => sh_iconst (v := 0) dc_Hall_sync_1 (by decide) k) ?_
  refine sh_cp (fun w Z k => sh_bipush (v := 8) dc_Hall_sync_2 (by decide) k) ?_
  refine sh_ccall (fun w hw => sh_stat (As := [.int 5, .int 0, .int 8]) dc_Hall_sync_4 lm_Hall_checkNumber ln_Hall_39 wd_191 wd_49 rfl rfl (Nat.le_of_ble_eq_true rfl)) (ct_Hall_checkNumber_2 (x := 5) (lo := 0) (hi := 8) (by decide) (by decide)) ⟨(Nat.le_of_ble_eq_true rfl), (Nat.le_of_ble_eq_true rfl), (Nat.le_of_ble_eq_true rfl), (Nat.le_of_ble_eq_true rfl)⟩ ?_
  show sh_cW _ _ (_, _, []) K L _ _ _ _ _
  refine sh_cp (fun w Z k => sh_aload_n dc_Hall_sync_7 rfl rfl k) ?_
  refine sh_cp (fun w Z k => sh_iload_n dc_Hall_sync_8 rfl rfl k) ?_
  refine sh_ccall (fun w hw => sh_virt (As := [.int (nI s)]) dc_Hall_sync_9 lm_Hall_syncAt ln_Hall_73 wd_272 wd_2 rfl rfl (Nat.le_of_ble_eq_true rfl) (hw _ _ cw_o0) rfl) (ct_Hall_syncAt_2 (s := s) (by omega) (cw_nz hk_s (by decide))) ⟨(Nat.le_of_ble_eq_true rfl), (Nat.le_of_ble_eq_true rfl), (Nat.le_of_ble_eq_true rfl), (Nat.le_of_ble_eq_true rfl)⟩ ?_
  show sh_cW _ _ (_, _, [.ref (A (20 + s))]) K L _ _ _ _ _
  refine sh_cp (fun w Z k => sh_astore_n dc_Hall_sync_12 rfl (by decide) k) ?_
  refine sh_cp (fun w Z k => sh_iload_n dc_Hall_sync_13 rfl rfl k) ?_
  refine sh_cp (fun w Z k => sh_lookup (off := 52) (tgt := 66) dc_Hall_sync_14 (by decide) (by decide) (by decide) k) ?_
  refine sh_cp (fun w Z k => sh_aload_n dc_Hall_sync_66 rfl rfl k) ?_
  refine sh_cget (20 + s) 1 dc_Hall_sync_67 (cw_oc (by omega) hk_s) rfl (by decide) fl_Hall_206 rfl rfl rfl rfl ?_
  refine sh_cp (fun w Z k => sh_iload_n dc_Hall_sync_70 rfl rfl k) ?_
  refine sh_cp (fun w Z k => sh_iconst (v := 2) dc_Hall_sync_71 (by decide) k) ?_
  refine sh_cp (fun w Z k => sh_isub dc_Hall_sync_72 k) ?_
  refine sh_cti (show (5 - 2 : Int32) = 3 from by decide) ?_
  refine sh_ccall (fun w hw => sh_virt (As := [.int 3]) dc_Hall_sync_73 lm_Waiters_at ln_Hall_210 wd_690 wd_22 rfl rfl (Nat.le_of_ble_eq_true rfl) (hw _ _ (cw_ot (by omega) (cw_nz hk_s (by decide)))) rfl) (ct_Waiters_at_3 (s := s) (i := 3) (u18_17 := u18_73) (by omega) (cw_nz hk_s (by decide)) (by omega) c0_73 (by omega) c2_73) ⟨(Nat.le_of_ble_eq_true rfl), (Nat.le_of_ble_eq_true rfl), (Nat.le_of_ble_eq_true rfl), (Nat.le_of_ble_eq_true rfl)⟩ ?_
  show sh_cW _ _ (_, _, [.ref (A (10 + u18_73))]) K L _ _ _ _ _
  refine sh_cp (fun w Z k => sh_astore dc_Hall_sync_76 (by decide) k) ?_
  refine sh_cp (fun w Z k => sh_aload dc_Hall_sync_78 rfl k) ?_
  refine sh_cp (fun w Z k => sh_ifnonnull (tgt := 87) dc_Hall_sync_80 (by decide) k) ?_
  refine sh_cp (fun w Z k => sh_aload dc_Hall_sync_87 rfl k) ?_
  refine sh_cget (10 + u18_73) 0 dc_Hall_sync_89 (cw_ow (by omega)) rfl (by decide) fl_Hall_213 rfl rfl rfl rfl ?_
  exact sh_ce (fun w => sh_ireturn dc_Hall_sync_92 rfl rfl (by decide) (by decide))
theorem ct_Hall_sync_Condition_6_1 {A : Nat → Nat} {K : sh_II} {L : sh_DD} {s : Nat} (hs : s < 8) (hk_s : cw_cl (K 12 s) = 8) (c0_73 : (K 19 s) ≤ (nI 4)) : sh_cM A md_Hall_sync [.ref (A 0), .int (nI s), .int 6] K L (.inl (some (.int (-1)))) K L := by
  refine sh_cp (fun w Z k => sh_iload_n dc_Hall_sync_0 rfl rfl k) ?_
  refine sh_cp (fun w Z k => sh_iconst (v := 0) dc_Hall_sync_1 (by decide) k) ?_
  refine sh_cp (fun w Z k => sh_bipush (v := 8) dc_Hall_sync_2 (by decide) k) ?_
  refine sh_ccall (fun w hw => sh_stat (As := [.int 6, .int 0, .int 8]) dc_Hall_sync_4 lm_Hall_checkNumber ln_Hall_39 wd_191 wd_49 rfl rfl (Nat.le_of_ble_eq_true rfl)) (ct_Hall_checkNumber_2 (x := 6) (lo := 0) (hi := 8) (by decide) (by decide)) ⟨(Nat.le_of_ble_eq_true rfl), (Nat.le_of_ble_eq_true rfl), (Nat.le_of_ble_eq_true rfl), (Nat.le_of_ble_eq_true rfl)⟩ ?_
  show sh_cW _ _ (_, _, []) K L _ _ _ _ _
  refine sh_cp (fun w Z k => sh_aload_n dc_Hall_sync_7 rfl rfl k) ?_
  refine sh_cp (fun w Z k => sh_iload_n dc_Hall_sync_8 rfl rfl k) ?_
  refine sh_ccall (fun w hw => sh_virt (As := [.int (nI s)]) dc_Hall_sync_9 lm_Hall_syncAt ln_Hall_73 wd_272 wd_2 rfl rfl (Nat.le_of_ble_eq_true rfl) (hw _ _ cw_o0) rfl) (ct_Hall_syncAt_2 (s := s) (by omega) (cw_nz hk_s (by decide))) ⟨(Nat.le_of_ble_eq_true rfl), (Nat.le_of_ble_eq_true rfl), (Nat.le_of_ble_eq_true rfl), (Nat.le_of_ble_eq_true rfl)⟩ ?_
  show sh_cW _ _ (_, _, [.ref (A (20 + s))]) K L _ _ _ _ _
  refine sh_cp (fun w Z k => sh_astore_n dc_Hall_sync_12 rfl (by decide) k) ?_
  refine sh_cp (fun w Z k => sh_iload_n dc_Hall_sync_13 rfl rfl k) ?_
  refine sh_cp (fun w Z k => sh_lookup (off := 52) (tgt := 66) dc_Hall_sync_14 (by decide) (by decide) (by decide) k) ?_
  refine sh_cp (fun w Z k => sh_aload_n dc_Hall_sync_66 rfl rfl k) ?_
  refine sh_cget (20 + s) 1 dc_Hall_sync_67 (cw_oc (by omega) hk_s) rfl (by decide) fl_Hall_206 rfl rfl rfl rfl ?_
  refine sh_cp (fun w Z k => sh_iload_n dc_Hall_sync_70 rfl rfl k) ?_
  refine sh_cp (fun w Z k => sh_iconst (v := 2) dc_Hall_sync_71 (by decide) k) ?_
  refine sh_cp (fun w Z k => sh_isub dc_Hall_sync_72 k) ?_
  refine sh_cti (show (6 - 2 : Int32) = 4 from by decide) ?_
  refine sh_ccall (fun w hw => sh_virt (As := [.int 4]) dc_Hall_sync_73 lm_Waiters_at ln_Hall_210 wd_690 wd_22 rfl rfl (Nat.le_of_ble_eq_true rfl) (hw _ _ (cw_ot (by omega) (cw_nz hk_s (by decide)))) rfl) (ct_Waiters_at_1 (s := s) (i := 4) (by omega) (cw_nz hk_s (by decide)) (by omega) c0_73) ⟨(Nat.le_of_ble_eq_true rfl), (Nat.le_of_ble_eq_true rfl), (Nat.le_of_ble_eq_true rfl), (Nat.le_of_ble_eq_true rfl)⟩ ?_
  show sh_cW _ _ (_, _, [.null]) K L _ _ _ _ _
  refine sh_cp (fun w Z k => sh_astoreN dc_Hall_sync_76 (by decide) k) ?_
  refine sh_cp (fun w Z k => sh_aloadq (x := none) dc_Hall_sync_78 rfl k) ?_
  show sh_cW _ _ (_, _, .null :: _) _ _ _ _ _ _ _
  refine sh_cp (fun w Z k => sh_ifnonnullN dc_Hall_sync_80 k) ?_
  refine sh_cp (fun w Z k => sh_iconst (v := (-1)) dc_Hall_sync_83 (by decide) k) ?_
  refine sh_cp (fun w Z k => sh_goto_ (tgt := 92) dc_Hall_sync_84 (by decide) k) ?_
  exact sh_ce (fun w => sh_ireturn dc_Hall_sync_92 rfl rfl (by decide) (by decide))
theorem ct_Hall_sync_Condition_6_2 {A : Nat → Nat} {K : sh_II} {L : sh_DD} {s : Nat} (hs : s < 8) (hk_s : cw_cl (K 12 s) = 8) (c0_73 : ¬ (K 19 s) ≤ (nI 4)) (c1_73 : (K 18 (6 * s + 4)) = -1) : sh_cM A md_Hall_sync [.ref (A 0), .int (nI s), .int 6] K L (.inl (some (.int (-1)))) K L := by
  refine sh_cp (fun w Z k => sh_iload_n dc_Hall_sync_0 rfl rfl k) ?_
  refine sh_cp (fun w Z k => sh_iconst (v := 0) dc_Hall_sync_1 (by decide) k) ?_
  refine sh_cp (fun w Z k => sh_bipush (v := 8) dc_Hall_sync_2 (by decide) k) ?_
  refine sh_ccall (fun w hw => sh_stat (As := [.int 6, .int 0, .int 8]) dc_Hall_sync_4 lm_Hall_checkNumber ln_Hall_39 wd_191 wd_49 rfl rfl (Nat.le_of_ble_eq_true rfl)) (ct_Hall_checkNumber_2 (x := 6) (lo := 0) (hi := 8) (by decide) (by decide)) ⟨(Nat.le_of_ble_eq_true rfl), (Nat.le_of_ble_eq_true rfl), (Nat.le_of_ble_eq_true rfl), (Nat.le_of_ble_eq_true rfl)⟩ ?_
  show sh_cW _ _ (_, _, []) K L _ _ _ _ _
  refine sh_cp (fun w Z k => sh_aload_n dc_Hall_sync_7 rfl rfl k) ?_
  refine sh_cp (fun w Z k => sh_iload_n dc_Hall_sync_8 rfl rfl k) ?_
  refine sh_ccall (fun w hw => sh_virt (As := [.int (nI s)]) dc_Hall_sync_9 lm_Hall_syncAt ln_Hall_73 wd_272 wd_2 rfl rfl (Nat.le_of_ble_eq_true rfl) (hw _ _ cw_o0) rfl) (ct_Hall_syncAt_2 (s := s) (by omega) (cw_nz hk_s (by decide))) ⟨(Nat.le_of_ble_eq_true rfl), (Nat.le_of_ble_eq_true rfl), (Nat.le_of_ble_eq_true rfl), (Nat.le_of_ble_eq_true rfl)⟩ ?_
  show sh_cW _ _ (_, _, [.ref (A (20 + s))]) K L _ _ _ _ _
  refine sh_cp (fun w Z k => sh_astore_n dc_Hall_sync_12 rfl (by decide) k) ?_
  refine sh_cp (fun w Z k => sh_iload_n dc_Hall_sync_13 rfl rfl k) ?_
  refine sh_cp (fun w Z k => sh_lookup (off := 52) (tgt := 66) dc_Hall_sync_14 (by decide) (by decide) (by decide) k) ?_
  refine sh_cp (fun w Z k => sh_aload_n dc_Hall_sync_66 rfl rfl k) ?_
  refine sh_cget (20 + s) 1 dc_Hall_sync_67 (cw_oc (by omega) hk_s) rfl (by decide) fl_Hall_206 rfl rfl rfl rfl ?_
  refine sh_cp (fun w Z k => sh_iload_n dc_Hall_sync_70 rfl rfl k) ?_
  refine sh_cp (fun w Z k => sh_iconst (v := 2) dc_Hall_sync_71 (by decide) k) ?_
  refine sh_cp (fun w Z k => sh_isub dc_Hall_sync_72 k) ?_
  refine sh_cti (show (6 - 2 : Int32) = 4 from by decide) ?_
  refine sh_ccall (fun w hw => sh_virt (As := [.int 4]) dc_Hall_sync_73 lm_Waiters_at ln_Hall_210 wd_690 wd_22 rfl rfl (Nat.le_of_ble_eq_true rfl) (hw _ _ (cw_ot (by omega) (cw_nz hk_s (by decide)))) rfl) (ct_Waiters_at_2 (s := s) (i := 4) (by omega) (cw_nz hk_s (by decide)) (by omega) c0_73 c1_73) ⟨(Nat.le_of_ble_eq_true rfl), (Nat.le_of_ble_eq_true rfl), (Nat.le_of_ble_eq_true rfl), (Nat.le_of_ble_eq_true rfl)⟩ ?_
  show sh_cW _ _ (_, _, [.null]) K L _ _ _ _ _
  refine sh_cp (fun w Z k => sh_astoreN dc_Hall_sync_76 (by decide) k) ?_
  refine sh_cp (fun w Z k => sh_aloadq (x := none) dc_Hall_sync_78 rfl k) ?_
  show sh_cW _ _ (_, _, .null :: _) _ _ _ _ _ _ _
  refine sh_cp (fun w Z k => sh_ifnonnullN dc_Hall_sync_80 k) ?_
  refine sh_cp (fun w Z k => sh_iconst (v := (-1)) dc_Hall_sync_83 (by decide) k) ?_
  refine sh_cp (fun w Z k => sh_goto_ (tgt := 92) dc_Hall_sync_84 (by decide) k) ?_
  exact sh_ce (fun w => sh_ireturn dc_Hall_sync_92 rfl rfl (by decide) (by decide))
theorem ct_Hall_sync_Condition_6_3 {A : Nat → Nat} {K : sh_II} {L : sh_DD} {s : Nat} {u18_73 : Nat} (hs : s < 8) (hk_s : cw_cl (K 12 s) = 8) (c0_73 : ¬ (K 19 s) ≤ (nI 4)) (hu18_73 : u18_73 < 6) (c2_73 : (K 18 (6 * s + 4)) = nI u18_73) : sh_cM A md_Hall_sync [.ref (A 0), .int (nI s), .int 6] K L (.inl (some (.int (nI u18_73)))) K L := by
  refine sh_cp (fun w Z k => sh_iload_n dc_Hall_sync_0 rfl rfl k) ?_
  refine sh_cp (fun w Z k => sh_iconst (v := 0) dc_Hall_sync_1 (by decide) k) ?_
  refine sh_cp (fun w Z k => sh_bipush (v := 8) dc_Hall_sync_2 (by decide) k) ?_
  refine sh_ccall (fun w hw => sh_stat (As := [.int 6, .int 0, .int 8]) dc_Hall_sync_4 lm_Hall_checkNumber ln_Hall_39 wd_191 wd_49 rfl rfl (Nat.le_of_ble_eq_true rfl)) (ct_Hall_checkNumber_2 (x := 6) (lo := 0) (hi := 8) (by decide) (by decide)) ⟨(Nat.le_of_ble_eq_true rfl), (Nat.le_of_ble_eq_true rfl), (Nat.le_of_ble_eq_true rfl), (Nat.le_of_ble_eq_true rfl)⟩ ?_
  show sh_cW _ _ (_, _, []) K L _ _ _ _ _
  refine sh_cp (fun w Z k => sh_aload_n dc_Hall_sync_7 rfl rfl k) ?_
  refine sh_cp (fun w Z k => sh_iload_n dc_Hall_sync_8 rfl rfl k) ?_
  refine sh_ccall (fun w hw => sh_virt (As := [.int (nI s)]) dc_Hall_sync_9 lm_Hall_syncAt ln_Hall_73 wd_272 wd_2 rfl rfl (Nat.le_of_ble_eq_true rfl) (hw _ _ cw_o0) rfl) (ct_Hall_syncAt_2 (s := s) (by omega) (cw_nz hk_s (by decide))) ⟨(Nat.le_of_ble_eq_true rfl), (Nat.le_of_ble_eq_true rfl), (Nat.le_of_ble_eq_true rfl), (Nat.le_of_ble_eq_true rfl)⟩ ?_
  show sh_cW _ _ (_, _, [.ref (A (20 + s))]) K L _ _ _ _ _
  refine sh_cp (fun w Z k => sh_astore_n dc_Hall_sync_12 rfl (by decide) k) ?_
  refine sh_cp (fun w Z k => sh_iload_n dc_Hall_sync_13 rfl rfl k) ?_
  refine sh_cp (fun w Z k => sh_lookup (off := 52) (tgt := 66) dc_Hall_sync_14 (by decide) (by decide) (by decide) k) ?_
  refine sh_cp (fun w Z k => sh_aload_n dc_Hall_sync_66 rfl rfl k) ?_
  refine sh_cget (20 + s) 1 dc_Hall_sync_67 (cw_oc (by omega) hk_s) rfl (by decide) fl_Hall_206 rfl rfl rfl rfl ?_
  refine sh_cp (fun w Z k => sh_iload_n dc_Hall_sync_70 rfl rfl k) ?_
  refine sh_cp (fun w Z k => sh_iconst (v := 2) dc_Hall_sync_71 (by decide) k) ?_
  refine sh_cp (fun w Z k => sh_isub dc_Hall_sync_72 k) ?_
  refine sh_cti (show (6 - 2 : Int32) = 4 from by decide) ?_
  refine sh_ccall (fun w hw => sh_virt (As := [.int 4]) dc_Hall_sync_73 lm_Waiters_at ln_Hall_210 wd_690 wd_22 rfl rfl (Nat.le_of_ble_eq_true rfl) (hw _ _ (cw_ot (by omega) (cw_nz hk_s (by decide)))) rfl) (ct_Waiters_at_3 (s := s) (i := 4) (u18_17 := u18_73) (by omega) (cw_nz hk_s (by decide)) (by omega) c0_73 (by omega) c2_73) ⟨(Nat.le_of_ble_eq_true rfl), (Nat.le_of_ble_eq_true rfl), (Nat.le_of_ble_eq_true rfl), (Nat.le_of_ble_eq_true rfl)⟩ ?_
  show sh_cW _ _ (_, _, [.ref (A (10 + u18_73))]) K L _ _ _ _ _
  refine sh_cp (fun w Z k => sh_astore dc_Hall_sync_76 (by decide) k) ?_
  refine sh_cp (fun w Z k => sh_aload dc_Hall_sync_78 rfl k) ?_
  refine sh_cp (fun w Z k => sh_ifnonnull (tgt := 87) dc_Hall_sync_80 (by decide) k) ?_
  refine sh_cp (fun w Z k => sh_aload dc_Hall_sync_87 rfl k) ?_
  refine sh_cget (10 + u18_73) 0 dc_Hall_sync_89 (cw_ow (by omega)) rfl (by decide) fl_Hall_213 rfl rfl rfl rfl ?_
  exact sh_ce (fun w => sh_ireturn dc_Hall_sync_92 rfl rfl (by decide) (by decide))
theorem ct_Hall_sync_Condition_7_1 {A : Nat → Nat} {K : sh_II} {L : sh_DD} {s : Nat} (hs : s < 8) (hk_s : cw_cl (K 12 s) = 8) (c0_73 : (K 19 s) ≤ (nI 5)) : sh_cM A md_Hall_sync [.ref (A 0), .int (nI s), .int 7] K L (.inl (some (.int (-1)))) K L := by
  refine sh_cp (fun w Z k => sh_iload_n dc_Hall_sync_0 rfl rfl k) ?_
  refine sh_cp (fun w Z k => sh_iconst (v := 0) dc_Hall_sync_1 (by decide) k) ?_
  refine sh_cp (fun w Z k => sh_bipush (v := 8) dc_Hall_sync_2 (by decide) k) ?_
  refine sh_ccall (fun w hw => sh_stat (As := [.int 7, .int 0, .int 8]) dc_Hall_sync_4 lm_Hall_checkNumber ln_Hall_39 wd_191 wd_49 rfl rfl (Nat.le_of_ble_eq_true rfl)) (ct_Hall_checkNumber_2 (x := 7) (lo := 0) (hi := 8) (by decide) (by decide)) ⟨(Nat.le_of_ble_eq_true rfl), (Nat.le_of_ble_eq_true rfl), (Nat.le_of_ble_eq_true rfl), (Nat.le_of_ble_eq_true rfl)⟩ ?_
  show sh_cW _ _ (_, _, []) K L _ _ _ _ _
  refine sh_cp (fun w Z k => sh_aload_n dc_Hall_sync_7 rfl rfl k) ?_
  refine sh_cp (fun w Z k => sh_iload_n dc_Hall_sync_8 rfl rfl k) ?_
  refine sh_ccall (fun w hw => sh_virt (As := [.int (nI s)]) dc_Hall_sync_9 lm_Hall_syncAt ln_Hall_73 wd_272 wd_2 rfl rfl (Nat.le_of_ble_eq_true rfl) (hw _ _ cw_o0) rfl) (ct_Hall_syncAt_2 (s := s) (by omega) (cw_nz hk_s (by decide))) ⟨(Nat.le_of_ble_eq_true rfl), (Nat.le_of_ble_eq_true rfl), (Nat.le_of_ble_eq_true rfl), (Nat.le_of_ble_eq_true rfl)⟩ ?_
  show sh_cW _ _ (_, _, [.ref (A (20 + s))]) K L _ _ _ _ _
  refine sh_cp (fun w Z k => sh_astore_n dc_Hall_sync_12 rfl (by decide) k) ?_
  refine sh_cp (fun w Z k => sh_iload_n dc_Hall_sync_13 rfl rfl k) ?_
  refine sh_cp (fun w Z k => sh_lookup (off := 52) (tgt := 66) dc_Hall_sync_14 (by decide) (by decide) (by decide) k) ?_
  refine sh_cp (fun w Z k => sh_aload_n dc_Hall_sync_66 rfl rfl k) ?_
  refine sh_cget (20 + s) 1 dc_Hall_sync_67 (cw_oc (by omega) hk_s) rfl (by decide) fl_Hall_206 rfl rfl rfl rfl ?_
  refine sh_cp (fun w Z k => sh_iload_n dc_Hall_sync_70 rfl rfl k) ?_
  refine sh_cp (fun w Z k => sh_iconst (v := 2) dc_Hall_sync_71 (by decide) k) ?_
  refine sh_cp (fun w Z k => sh_isub dc_Hall_sync_72 k) ?_
  refine sh_cti (show (7 - 2 : Int32) = 5 from by decide) ?_
  refine sh_ccall (fun w hw => sh_virt (As := [.int 5]) dc_Hall_sync_73 lm_Waiters_at ln_Hall_210 wd_690 wd_22 rfl rfl (Nat.le_of_ble_eq_true rfl) (hw _ _ (cw_ot (by omega) (cw_nz hk_s (by decide)))) rfl) (ct_Waiters_at_1 (s := s) (i := 5) (by omega) (cw_nz hk_s (by decide)) (by omega) c0_73) ⟨(Nat.le_of_ble_eq_true rfl), (Nat.le_of_ble_eq_true rfl), (Nat.le_of_ble_eq_true rfl), (Nat.le_of_ble_eq_true rfl)⟩ ?_
  show sh_cW _ _ (_, _, [.null]) K L _ _ _ _ _
  refine sh_cp (fun w Z k => sh_astoreN dc_Hall_sync_76 (by decide) k) ?_
  refine sh_cp (fun w Z k => sh_aloadq (x := none) dc_Hall_sync_78 rfl k) ?_
  show sh_cW _ _ (_, _, .null :: _) _ _ _ _ _ _ _
  refine sh_cp (fun w Z k => sh_ifnonnullN dc_Hall_sync_80 k) ?_
  refine sh_cp (fun w Z k => sh_iconst (v := (-1)) dc_Hall_sync_83 (by decide) k) ?_
  refine sh_cp (fun w Z k => sh_goto_ (tgt := 92) dc_Hall_sync_84 (by decide) k) ?_
  exact sh_ce (fun w => sh_ireturn dc_Hall_sync_92 rfl rfl (by decide) (by decide))
theorem ct_Hall_sync_Condition_7_2 {A : Nat → Nat} {K : sh_II} {L : sh_DD} {s : Nat} (hs : s < 8) (hk_s : cw_cl (K 12 s) = 8) (c0_73 : ¬ (K 19 s) ≤ (nI 5)) (c1_73 : (K 18 (6 * s + 5)) = -1) : sh_cM A md_Hall_sync [.ref (A 0), .int (nI s), .int 7] K L (.inl (some (.int (-1)))) K L := by
  refine sh_cp (fun w Z k => sh_iload_n dc_Hall_sync_0 rfl rfl k) ?_
  refine sh_cp (fun w Z k => sh_iconst (v := 0) dc_Hall_sync_1 (by decide) k) ?_
  refine sh_cp (fun w Z k => sh_bipush (v := 8) dc_Hall_sync_2 (by decide) k) ?_
  refine sh_ccall (fun w hw => sh_stat (As := [.int 7, .int 0, .int 8]) dc_Hall_sync_4 lm_Hall_checkNumber ln_Hall_39 wd_191 wd_49 rfl rfl (Nat.le_of_ble_eq_true rfl)) (ct_Hall_checkNumber_2 (x := 7) (lo := 0) (hi := 8) (by decide) (by decide)) ⟨(Nat.le_of_ble_eq_true rfl), (Nat.le_of_ble_eq_true rfl), (Nat.le_of_ble_eq_true rfl), (Nat.le_of_ble_eq_true rfl)⟩ ?_
  show sh_cW _ _ (_, _, []) K L _ _ _ _ _
  refine sh_cp (fun w Z k => sh_aload_n dc_Hall_sync_7 rfl rfl k) ?_
  refine sh_cp (fun w Z k => sh_iload_n dc_Hall_sync_8 rfl rfl k) ?_
  refine sh_ccall (fun w hw => sh_virt (As := [.int (nI s)]) dc_Hall_sync_9 lm_Hall_syncAt ln_Hall_73 wd_272 wd_2 rfl rfl (Nat.le_of_ble_eq_true rfl) (hw _ _ cw_o0) rfl) (ct_Hall_syncAt_2 (s := s) (by omega) (cw_nz hk_s (by decide))) ⟨(Nat.le_of_ble_eq_true rfl), (Nat.le_of_ble_eq_true rfl), (Nat.le_of_ble_eq_true rfl), (Nat.le_of_ble_eq_true rfl)⟩ ?_
  show sh_cW _ _ (_, _, [.ref (A (20 + s))]) K L _ _ _ _ _
  refine sh_cp (fun w Z k => sh_astore_n dc_Hall_sync_12 rfl (by decide) k) ?_
  refine sh_cp (fun w Z k => sh_iload_n dc_Hall_sync_13 rfl rfl k) ?_
  refine sh_cp (fun w Z k => sh_lookup (off := 52) (tgt := 66) dc_Hall_sync_14 (by decide) (by decide) (by decide) k) ?_
  refine sh_cp (fun w Z k => sh_aload_n dc_Hall_sync_66 rfl rfl k) ?_
  refine sh_cget (20 + s) 1 dc_Hall_sync_67 (cw_oc (by omega) hk_s) rfl (by decide) fl_Hall_206 rfl rfl rfl rfl ?_
  refine sh_cp (fun w Z k => sh_iload_n dc_Hall_sync_70 rfl rfl k) ?_
  refine sh_cp (fun w Z k => sh_iconst (v := 2) dc_Hall_sync_71 (by decide) k) ?_
  refine sh_cp (fun w Z k => sh_isub dc_Hall_sync_72 k) ?_
  refine sh_cti (show (7 - 2 : Int32) = 5 from by decide) ?_
  refine sh_ccall (fun w hw => sh_virt (As := [.int 5]) dc_Hall_sync_73 lm_Waiters_at ln_Hall_210 wd_690 wd_22 rfl rfl (Nat.le_of_ble_eq_true rfl) (hw _ _ (cw_ot (by omega) (cw_nz hk_s (by decide)))) rfl) (ct_Waiters_at_2 (s := s) (i := 5) (by omega) (cw_nz hk_s (by decide)) (by omega) c0_73 c1_73) ⟨(Nat.le_of_ble_eq_true rfl), (Nat.le_of_ble_eq_true rfl), (Nat.le_of_ble_eq_true rfl), (Nat.le_of_ble_eq_true rfl)⟩ ?_
  show sh_cW _ _ (_, _, [.null]) K L _ _ _ _ _
  refine sh_cp (fun w Z k => sh_astoreN dc_Hall_sync_76 (by decide) k) ?_
  refine sh_cp (fun w Z k => sh_aloadq (x := none) dc_Hall_sync_78 rfl k) ?_
  show sh_cW _ _ (_, _, .null :: _) _ _ _ _ _ _ _
  refine sh_cp (fun w Z k => sh_ifnonnullN dc_Hall_sync_80 k) ?_
  refine sh_cp (fun w Z k => sh_iconst (v := (-1)) dc_Hall_sync_83 (by decide) k) ?_
  refine sh_cp (fun w Z k => sh_goto_ (tgt := 92) dc_Hall_sync_84 (by decide) k) ?_
  exact sh_ce (fun w => sh_ireturn dc_Hall_sync_92 rfl rfl (by decide) (by decide))
theorem ct_Hall_sync_Condition_7_3 {A : Nat → Nat} {K : sh_II} {L : sh_DD} {s : Nat} {u18_73 : Nat} (hs : s < 8) (hk_s : cw_cl (K 12 s) = 8) (c0_73 : ¬ (K 19 s) ≤ (nI 5)) (hu18_73 : u18_73 < 6) (c2_73 : (K 18 (6 * s + 5)) = nI u18_73) : sh_cM A md_Hall_sync [.ref (A 0), .int (nI s), .int 7] K L (.inl (some (.int (nI u18_73)))) K L := by
  refine sh_cp (fun w Z k => sh_iload_n dc_Hall_sync_0 rfl rfl k) ?_
  refine sh_cp (fun w Z k => sh_iconst (v := 0) dc_Hall_sync_1 (by decide) k) ?_
  refine sh_cp (fun w Z k => sh_bipush (v := 8) dc_Hall_sync_2 (by decide) k) ?_
  refine sh_ccall (fun w hw => sh_stat (As := [.int 7, .int 0, .int 8]) dc_Hall_sync_4 lm_Hall_checkNumber ln_Hall_39 wd_191 wd_49 rfl rfl (Nat.le_of_ble_eq_true rfl)) (ct_Hall_checkNumber_2 (x := 7) (lo := 0) (hi := 8) (by decide) (by decide)) ⟨(Nat.le_of_ble_eq_true rfl), (Nat.le_of_ble_eq_true rfl), (Nat.le_of_ble_eq_true rfl), (Nat.le_of_ble_eq_true rfl)⟩ ?_
  show sh_cW _ _ (_, _, []) K L _ _ _ _ _
  refine sh_cp (fun w Z k => sh_aload_n dc_Hall_sync_7 rfl rfl k) ?_
  refine sh_cp (fun w Z k => sh_iload_n dc_Hall_sync_8 rfl rfl k) ?_
  refine sh_ccall (fun w hw => sh_virt (As := [.int (nI s)]) dc_Hall_sync_9 lm_Hall_syncAt ln_Hall_73 wd_272 wd_2 rfl rfl (Nat.le_of_ble_eq_true rfl) (hw _ _ cw_o0) rfl) (ct_Hall_syncAt_2 (s := s) (by omega) (cw_nz hk_s (by decide))) ⟨(Nat.le_of_ble_eq_true rfl), (Nat.le_of_ble_eq_true rfl), (Nat.le_of_ble_eq_true rfl), (Nat.le_of_ble_eq_true rfl)⟩ ?_
  show sh_cW _ _ (_, _, [.ref (A (20 + s))]) K L _ _ _ _ _
  refine sh_cp (fun w Z k => sh_astore_n dc_Hall_sync_12 rfl (by decide) k) ?_
  refine sh_cp (fun w Z k => sh_iload_n dc_Hall_sync_13 rfl rfl k) ?_
  refine sh_cp (fun w Z k => sh_lookup (off := 52) (tgt := 66) dc_Hall_sync_14 (by decide) (by decide) (by decide) k) ?_
  refine sh_cp (fun w Z k => sh_aload_n dc_Hall_sync_66 rfl rfl k) ?_
  refine sh_cget (20 + s) 1 dc_Hall_sync_67 (cw_oc (by omega) hk_s) rfl (by decide) fl_Hall_206 rfl rfl rfl rfl ?_
  refine sh_cp (fun w Z k => sh_iload_n dc_Hall_sync_70 rfl rfl k) ?_
  refine sh_cp (fun w Z k => sh_iconst (v := 2) dc_Hall_sync_71 (by decide) k) ?_
  refine sh_cp (fun w Z k => sh_isub dc_Hall_sync_72 k) ?_
  refine sh_cti (show (7 - 2 : Int32) = 5 from by decide) ?_
  refine sh_ccall (fun w hw => sh_virt (As := [.int 5]) dc_Hall_sync_73 lm_Waiters_at ln_Hall_210 wd_690 wd_22 rfl rfl (Nat.le_of_ble_eq_true rfl) (hw _ _ (cw_ot (by omega) (cw_nz hk_s (by decide)))) rfl) (ct_Waiters_at_3 (s := s) (i := 5) (u18_17 := u18_73) (by omega) (cw_nz hk_s (by decide)) (by omega) c0_73 (by omega) c2_73) ⟨(Nat.le_of_ble_eq_true rfl), (Nat.le_of_ble_eq_true rfl), (Nat.le_of_ble_eq_true rfl), (Nat.le_of_ble_eq_true rfl)⟩ ?_
  show sh_cW _ _ (_, _, [.ref (A (10 + u18_73))]) K L _ _ _ _ _
  refine sh_cp (fun w Z k => sh_astore dc_Hall_sync_76 (by decide) k) ?_
  refine sh_cp (fun w Z k => sh_aload dc_Hall_sync_78 rfl k) ?_
  refine sh_cp (fun w Z k => sh_ifnonnull (tgt := 87) dc_Hall_sync_80 (by decide) k) ?_
  refine sh_cp (fun w Z k => sh_aload dc_Hall_sync_87 rfl k) ?_
  refine sh_cget (10 + u18_73) 0 dc_Hall_sync_89 (cw_ow (by omega)) rfl (by decide) fl_Hall_213 rfl rfl rfl rfl ?_
  exact sh_ce (fun w => sh_ireturn dc_Hall_sync_92 rfl rfl (by decide) (by decide))
theorem ct_Hall_sync_Condition_8_1 {A : Nat → Nat} {K : sh_II} {L : sh_DD} {s : Nat} (hs : s < 8) (hk_s : cw_cl (K 12 s) = 8) : sh_cM A md_Hall_sync [.ref (A 0), .int (nI s), .int 8] K L (.inl (some (.int 0))) K L := by
  refine sh_cp (fun w Z k => sh_iload_n dc_Hall_sync_0 rfl rfl k) ?_
  refine sh_cp (fun w Z k => sh_iconst (v := 0) dc_Hall_sync_1 (by decide) k) ?_
  refine sh_cp (fun w Z k => sh_bipush (v := 8) dc_Hall_sync_2 (by decide) k) ?_
  refine sh_ccall (fun w hw => sh_stat (As := [.int 8, .int 0, .int 8]) dc_Hall_sync_4 lm_Hall_checkNumber ln_Hall_39 wd_191 wd_49 rfl rfl (Nat.le_of_ble_eq_true rfl)) (ct_Hall_checkNumber_2 (x := 8) (lo := 0) (hi := 8) (by decide) (by decide)) ⟨(Nat.le_of_ble_eq_true rfl), (Nat.le_of_ble_eq_true rfl), (Nat.le_of_ble_eq_true rfl), (Nat.le_of_ble_eq_true rfl)⟩ ?_
  show sh_cW _ _ (_, _, []) K L _ _ _ _ _
  refine sh_cp (fun w Z k => sh_aload_n dc_Hall_sync_7 rfl rfl k) ?_
  refine sh_cp (fun w Z k => sh_iload_n dc_Hall_sync_8 rfl rfl k) ?_
  refine sh_ccall (fun w hw => sh_virt (As := [.int (nI s)]) dc_Hall_sync_9 lm_Hall_syncAt ln_Hall_73 wd_272 wd_2 rfl rfl (Nat.le_of_ble_eq_true rfl) (hw _ _ cw_o0) rfl) (ct_Hall_syncAt_2 (s := s) (by omega) (cw_nz hk_s (by decide))) ⟨(Nat.le_of_ble_eq_true rfl), (Nat.le_of_ble_eq_true rfl), (Nat.le_of_ble_eq_true rfl), (Nat.le_of_ble_eq_true rfl)⟩ ?_
  show sh_cW _ _ (_, _, [.ref (A (20 + s))]) K L _ _ _ _ _
  refine sh_cp (fun w Z k => sh_astore_n dc_Hall_sync_12 rfl (by decide) k) ?_
  refine sh_cp (fun w Z k => sh_iload_n dc_Hall_sync_13 rfl rfl k) ?_
  refine sh_cp (fun w Z k => sh_lookup (off := 47) (tgt := 61) dc_Hall_sync_14 (by decide) (by decide) (by decide) k) ?_
  refine sh_cp (fun w Z k => sh_aload_n dc_Hall_sync_61 rfl rfl k) ?_
  refine sh_ccall (fun w hw => sh_virtU (As := []) dc_Hall_sync_62 lm_Sync_amount wd_819 wd_821 (Or.inr ⟨_, _, _, wd_820, wd_831⟩) ⟨by decide, by decide⟩ (by decide +kernel) wd_820 wd_822 rfl rfl (Nat.le_of_ble_eq_true rfl) (hw _ _ (cw_oc (by omega) hk_s)) rfl) (ct_Sync_amount_Condition_1 (s := s) (by omega) hk_s) ⟨(Nat.le_of_ble_eq_true rfl), (Nat.le_of_ble_eq_true rfl), (Nat.le_of_ble_eq_true rfl), (Nat.le_of_ble_eq_true rfl)⟩ ?_
  show sh_cW _ _ (_, _, [.int 0]) K L _ _ _ _ _
  exact sh_ce (fun w => sh_ireturn dc_Hall_sync_65 rfl rfl (by decide) (by decide))
theorem ct_Hall_waited_x_1 {A : Nat → Nat} {K : sh_II} {L : sh_DD} {x : Int32} (c0_2 : x < 0) : sh_cM A md_Hall_waited [.ref (A 0), .int x] K L (.inr 1) K L := by
  refine sh_cp (fun w Z k => sh_aload_n dc_Hall_waited_0 rfl rfl k) ?_
  refine sh_cp (fun w Z k => sh_iload_n dc_Hall_waited_1 rfl rfl k) ?_
  exact sh_ccallT (fun w hw => sh_virt (As := [.int x]) dc_Hall_waited_2 lm_Hall_syncAt ln_Hall_73 wd_272 wd_2 rfl rfl (Nat.le_of_ble_eq_true rfl) (hw _ _ cw_o0) rfl) (ct_Hall_syncAt_x_1 (x := x) c0_2) ⟨(Nat.le_of_ble_eq_true rfl), (Nat.le_of_ble_eq_true rfl), (Nat.le_of_ble_eq_true rfl), (Nat.le_of_ble_eq_true rfl)⟩ rfl
theorem ct_Hall_waited_x_2 {A : Nat → Nat} {K : sh_II} {L : sh_DD} {x : Int32} (c0_2 : ¬ x < 0) (c1_2 : ¬ x ≤ 7) : sh_cM A md_Hall_waited [.ref (A 0), .int x] K L (.inr 1) K L := by
  refine sh_cp (fun w Z k => sh_aload_n dc_Hall_waited_0 rfl rfl k) ?_
  refine sh_cp (fun w Z k => sh_iload_n dc_Hall_waited_1 rfl rfl k) ?_
  exact sh_ccallT (fun w hw => sh_virt (As := [.int x]) dc_Hall_waited_2 lm_Hall_syncAt ln_Hall_73 wd_272 wd_2 rfl rfl (Nat.le_of_ble_eq_true rfl) (hw _ _ cw_o0) rfl) (ct_Hall_syncAt_x_2 (x := x) c0_2 c1_2) ⟨(Nat.le_of_ble_eq_true rfl), (Nat.le_of_ble_eq_true rfl), (Nat.le_of_ble_eq_true rfl), (Nat.le_of_ble_eq_true rfl)⟩ rfl
theorem ct_Hall_waited_none_1 {A : Nat → Nat} {K : sh_II} {L : sh_DD} {s : Nat} (hs : s < 8) (hz0 : cw_cl (K 12 s) = 0) : sh_cM A md_Hall_waited [.ref (A 0), .int (nI s)] K L (.inr 2) K L := by
  refine sh_cp (fun w Z k => sh_aload_n dc_Hall_waited_0 rfl rfl k) ?_
  refine sh_cp (fun w Z k => sh_iload_n dc_Hall_waited_1 rfl rfl k) ?_
  exact sh_ccallT (fun w hw => sh_virt (As := [.int (nI s)]) dc_Hall_waited_2 lm_Hall_syncAt ln_Hall_73 wd_272 wd_2 rfl rfl (Nat.le_of_ble_eq_true rfl) (hw _ _ cw_o0) rfl) (ct_Hall_syncAt_1 (s := s) (by omega) hz0) ⟨(Nat.le_of_ble_eq_true rfl), (Nat.le_of_ble_eq_true rfl), (Nat.le_of_ble_eq_true rfl), (Nat.le_of_ble_eq_true rfl)⟩ rfl
theorem ct_Hall_waited_Lock_1 {A : Nat → Nat} {K : sh_II} {L : sh_DD} {s : Nat} (hs : s < 8) (hk_s : cw_cl (K 12 s) = 4) (c0_10 : 0 < (K 21 s)) (v1_32 : vf_n64 (FP.ddiv (L 20 s) (FP.i2d (K 21 s)))) : sh_cM A md_Hall_waited [.ref (A 0), .int (nI s)] K L (.inl (some (.double (FP.ddiv (L 20 s) (FP.i2d (K 21 s)))))) K L := by
  refine sh_cp (fun w Z k => sh_aload_n dc_Hall_waited_0 rfl rfl k) ?_
  refine sh_cp (fun w Z k => sh_iload_n dc_Hall_waited_1 rfl rfl k) ?_
  refine sh_ccall (fun w hw => sh_virt (As := [.int (nI s)]) dc_Hall_waited_2 lm_Hall_syncAt ln_Hall_73 wd_272 wd_2 rfl rfl (Nat.le_of_ble_eq_true rfl) (hw _ _ cw_o0) rfl) (ct_Hall_syncAt_2 (s := s) (by omega) (cw_nz hk_s (by decide))) ⟨(Nat.le_of_ble_eq_true rfl), (Nat.le_of_ble_eq_true rfl), (Nat.le_of_ble_eq_true rfl), (Nat.le_of_ble_eq_true rfl)⟩ ?_
  show sh_cW _ _ (_, _, [.ref (A (20 + s))]) K L _ _ _ _ _
  refine sh_cp (fun w Z k => sh_astore_n dc_Hall_waited_5 rfl (by decide) k) ?_
  refine sh_cp (fun w Z k => sh_aload_n dc_Hall_waited_6 rfl rfl k) ?_
  refine sh_cget (20 + s) 3 dc_Hall_waited_7 (cw_ol (by omega) hk_s) rfl (by decide) fl_Hall_216 rfl rfl rfl rfl ?_
  refine sh_cp (fun w Z k => sh_if_gt (tgt := 23) dc_Hall_waited_10 (by decide) (fun _ => k) (fun z => absurd c0_10 z)) ?_
  refine sh_cp (fun w Z k => sh_aload_n dc_Hall_waited_23 rfl rfl k) ?_
  refine sh_cget (20 + s) 2 dc_Hall_waited_24 (cw_ol (by omega) hk_s) rfl (by decide) fl_Hall_224 rfl rfl rfl rfl ?_
  refine sh_cp (fun w Z k => sh_aload_n dc_Hall_waited_27 rfl rfl k) ?_
  refine sh_cget (20 + s) 3 dc_Hall_waited_28 (cw_ol (by omega) hk_s) rfl (by decide) fl_Hall_216 rfl rfl rfl rfl ?_
  refine sh_cp (fun w Z k => sh_i2d dc_Hall_waited_31 k) ?_
  refine sh_cp (fun w Z k => sh_ddiv dc_Hall_waited_32 v1_32 k) ?_
  exact sh_ce (fun w => sh_dreturn dc_Hall_waited_33 rfl (by decide) (by decide))
theorem ct_Hall_waited_Lock_2 {A : Nat → Nat} {K : sh_II} {L : sh_DD} {s : Nat} (hs : s < 8) (hk_s : cw_cl (K 12 s) = 4) (c0_10 : ¬ 0 < (K 21 s)) : sh_cM A md_Hall_waited [.ref (A 0), .int (nI s)] K L (.inr 5) K L := by
  refine sh_cp (fun w Z k => sh_aload_n dc_Hall_waited_0 rfl rfl k) ?_
  refine sh_cp (fun w Z k => sh_iload_n dc_Hall_waited_1 rfl rfl k) ?_
  refine sh_ccall (fun w hw => sh_virt (As := [.int (nI s)]) dc_Hall_waited_2 lm_Hall_syncAt ln_Hall_73 wd_272 wd_2 rfl rfl (Nat.le_of_ble_eq_true rfl) (hw _ _ cw_o0) rfl) (ct_Hall_syncAt_2 (s := s) (by omega) (cw_nz hk_s (by decide))) ⟨(Nat.le_of_ble_eq_true rfl), (Nat.le_of_ble_eq_true rfl), (Nat.le_of_ble_eq_true rfl), (Nat.le_of_ble_eq_true rfl)⟩ ?_
  show sh_cW _ _ (_, _, [.ref (A (20 + s))]) K L _ _ _ _ _
  refine sh_cp (fun w Z k => sh_astore_n dc_Hall_waited_5 rfl (by decide) k) ?_
  refine sh_cp (fun w Z k => sh_aload_n dc_Hall_waited_6 rfl rfl k) ?_
  refine sh_cget (20 + s) 3 dc_Hall_waited_7 (cw_ol (by omega) hk_s) rfl (by decide) fl_Hall_216 rfl rfl rfl rfl ?_
  refine sh_cp (fun w Z k => sh_if_gt (tgt := 23) dc_Hall_waited_10 (by decide) (fun z => absurd z c0_10) (fun _ => k)) ?_
  exact sh_ct (fun w => sh_thr (lx := 2) (tx := "nobody has waited") dc_Hall_waited_13 dc_Hall_waited_16 (Or.inl ⟨dc_Hall_waited_17, rfl⟩) dc_Hall_waited_19 dc_Hall_waited_22 lx_Hall_219_223 (by decide +kernel) rfl (by decide) (by decide) (by decide) (by decide))
theorem ct_Hall_waited_Semaphore_1 {A : Nat → Nat} {K : sh_II} {L : sh_DD} {s : Nat} (hs : s < 8) (hk_s : cw_cl (K 12 s) = 5) (c0_10 : 0 < (K 21 s)) (v1_32 : vf_n64 (FP.ddiv (L 20 s) (FP.i2d (K 21 s)))) : sh_cM A md_Hall_waited [.ref (A 0), .int (nI s)] K L (.inl (some (.double (FP.ddiv (L 20 s) (FP.i2d (K 21 s)))))) K L := by
  refine sh_cp (fun w Z k => sh_aload_n dc_Hall_waited_0 rfl rfl k) ?_
  refine sh_cp (fun w Z k => sh_iload_n dc_Hall_waited_1 rfl rfl k) ?_
  refine sh_ccall (fun w hw => sh_virt (As := [.int (nI s)]) dc_Hall_waited_2 lm_Hall_syncAt ln_Hall_73 wd_272 wd_2 rfl rfl (Nat.le_of_ble_eq_true rfl) (hw _ _ cw_o0) rfl) (ct_Hall_syncAt_2 (s := s) (by omega) (cw_nz hk_s (by decide))) ⟨(Nat.le_of_ble_eq_true rfl), (Nat.le_of_ble_eq_true rfl), (Nat.le_of_ble_eq_true rfl), (Nat.le_of_ble_eq_true rfl)⟩ ?_
  show sh_cW _ _ (_, _, [.ref (A (20 + s))]) K L _ _ _ _ _
  refine sh_cp (fun w Z k => sh_astore_n dc_Hall_waited_5 rfl (by decide) k) ?_
  refine sh_cp (fun w Z k => sh_aload_n dc_Hall_waited_6 rfl rfl k) ?_
  refine sh_cget (20 + s) 3 dc_Hall_waited_7 (cw_oe (by omega) hk_s) rfl (by decide) fl_Hall_216 rfl rfl rfl rfl ?_
  refine sh_cp (fun w Z k => sh_if_gt (tgt := 23) dc_Hall_waited_10 (by decide) (fun _ => k) (fun z => absurd c0_10 z)) ?_
  refine sh_cp (fun w Z k => sh_aload_n dc_Hall_waited_23 rfl rfl k) ?_
  refine sh_cget (20 + s) 2 dc_Hall_waited_24 (cw_oe (by omega) hk_s) rfl (by decide) fl_Hall_224 rfl rfl rfl rfl ?_
  refine sh_cp (fun w Z k => sh_aload_n dc_Hall_waited_27 rfl rfl k) ?_
  refine sh_cget (20 + s) 3 dc_Hall_waited_28 (cw_oe (by omega) hk_s) rfl (by decide) fl_Hall_216 rfl rfl rfl rfl ?_
  refine sh_cp (fun w Z k => sh_i2d dc_Hall_waited_31 k) ?_
  refine sh_cp (fun w Z k => sh_ddiv dc_Hall_waited_32 v1_32 k) ?_
  exact sh_ce (fun w => sh_dreturn dc_Hall_waited_33 rfl (by decide) (by decide))
theorem ct_Hall_waited_Semaphore_2 {A : Nat → Nat} {K : sh_II} {L : sh_DD} {s : Nat} (hs : s < 8) (hk_s : cw_cl (K 12 s) = 5) (c0_10 : ¬ 0 < (K 21 s)) : sh_cM A md_Hall_waited [.ref (A 0), .int (nI s)] K L (.inr 5) K L := by
  refine sh_cp (fun w Z k => sh_aload_n dc_Hall_waited_0 rfl rfl k) ?_
  refine sh_cp (fun w Z k => sh_iload_n dc_Hall_waited_1 rfl rfl k) ?_
  refine sh_ccall (fun w hw => sh_virt (As := [.int (nI s)]) dc_Hall_waited_2 lm_Hall_syncAt ln_Hall_73 wd_272 wd_2 rfl rfl (Nat.le_of_ble_eq_true rfl) (hw _ _ cw_o0) rfl) (ct_Hall_syncAt_2 (s := s) (by omega) (cw_nz hk_s (by decide))) ⟨(Nat.le_of_ble_eq_true rfl), (Nat.le_of_ble_eq_true rfl), (Nat.le_of_ble_eq_true rfl), (Nat.le_of_ble_eq_true rfl)⟩ ?_
  show sh_cW _ _ (_, _, [.ref (A (20 + s))]) K L _ _ _ _ _
  refine sh_cp (fun w Z k => sh_astore_n dc_Hall_waited_5 rfl (by decide) k) ?_
  refine sh_cp (fun w Z k => sh_aload_n dc_Hall_waited_6 rfl rfl k) ?_
  refine sh_cget (20 + s) 3 dc_Hall_waited_7 (cw_oe (by omega) hk_s) rfl (by decide) fl_Hall_216 rfl rfl rfl rfl ?_
  refine sh_cp (fun w Z k => sh_if_gt (tgt := 23) dc_Hall_waited_10 (by decide) (fun z => absurd z c0_10) (fun _ => k)) ?_
  exact sh_ct (fun w => sh_thr (lx := 2) (tx := "nobody has waited") dc_Hall_waited_13 dc_Hall_waited_16 (Or.inl ⟨dc_Hall_waited_17, rfl⟩) dc_Hall_waited_19 dc_Hall_waited_22 lx_Hall_219_223 (by decide +kernel) rfl (by decide) (by decide) (by decide) (by decide))
theorem ct_Hall_waited_Latch_1 {A : Nat → Nat} {K : sh_II} {L : sh_DD} {s : Nat} (hs : s < 8) (hk_s : cw_cl (K 12 s) = 6) (c0_10 : 0 < (K 21 s)) (v1_32 : vf_n64 (FP.ddiv (L 20 s) (FP.i2d (K 21 s)))) : sh_cM A md_Hall_waited [.ref (A 0), .int (nI s)] K L (.inl (some (.double (FP.ddiv (L 20 s) (FP.i2d (K 21 s)))))) K L := by
  refine sh_cp (fun w Z k => sh_aload_n dc_Hall_waited_0 rfl rfl k) ?_
  refine sh_cp (fun w Z k => sh_iload_n dc_Hall_waited_1 rfl rfl k) ?_
  refine sh_ccall (fun w hw => sh_virt (As := [.int (nI s)]) dc_Hall_waited_2 lm_Hall_syncAt ln_Hall_73 wd_272 wd_2 rfl rfl (Nat.le_of_ble_eq_true rfl) (hw _ _ cw_o0) rfl) (ct_Hall_syncAt_2 (s := s) (by omega) (cw_nz hk_s (by decide))) ⟨(Nat.le_of_ble_eq_true rfl), (Nat.le_of_ble_eq_true rfl), (Nat.le_of_ble_eq_true rfl), (Nat.le_of_ble_eq_true rfl)⟩ ?_
  show sh_cW _ _ (_, _, [.ref (A (20 + s))]) K L _ _ _ _ _
  refine sh_cp (fun w Z k => sh_astore_n dc_Hall_waited_5 rfl (by decide) k) ?_
  refine sh_cp (fun w Z k => sh_aload_n dc_Hall_waited_6 rfl rfl k) ?_
  refine sh_cget (20 + s) 3 dc_Hall_waited_7 (cw_oa (by omega) hk_s) rfl (by decide) fl_Hall_216 rfl rfl rfl rfl ?_
  refine sh_cp (fun w Z k => sh_if_gt (tgt := 23) dc_Hall_waited_10 (by decide) (fun _ => k) (fun z => absurd c0_10 z)) ?_
  refine sh_cp (fun w Z k => sh_aload_n dc_Hall_waited_23 rfl rfl k) ?_
  refine sh_cget (20 + s) 2 dc_Hall_waited_24 (cw_oa (by omega) hk_s) rfl (by decide) fl_Hall_224 rfl rfl rfl rfl ?_
  refine sh_cp (fun w Z k => sh_aload_n dc_Hall_waited_27 rfl rfl k) ?_
  refine sh_cget (20 + s) 3 dc_Hall_waited_28 (cw_oa (by omega) hk_s) rfl (by decide) fl_Hall_216 rfl rfl rfl rfl ?_
  refine sh_cp (fun w Z k => sh_i2d dc_Hall_waited_31 k) ?_
  refine sh_cp (fun w Z k => sh_ddiv dc_Hall_waited_32 v1_32 k) ?_
  exact sh_ce (fun w => sh_dreturn dc_Hall_waited_33 rfl (by decide) (by decide))
theorem ct_Hall_waited_Latch_2 {A : Nat → Nat} {K : sh_II} {L : sh_DD} {s : Nat} (hs : s < 8) (hk_s : cw_cl (K 12 s) = 6) (c0_10 : ¬ 0 < (K 21 s)) : sh_cM A md_Hall_waited [.ref (A 0), .int (nI s)] K L (.inr 5) K L := by
  refine sh_cp (fun w Z k => sh_aload_n dc_Hall_waited_0 rfl rfl k) ?_
  refine sh_cp (fun w Z k => sh_iload_n dc_Hall_waited_1 rfl rfl k) ?_
  refine sh_ccall (fun w hw => sh_virt (As := [.int (nI s)]) dc_Hall_waited_2 lm_Hall_syncAt ln_Hall_73 wd_272 wd_2 rfl rfl (Nat.le_of_ble_eq_true rfl) (hw _ _ cw_o0) rfl) (ct_Hall_syncAt_2 (s := s) (by omega) (cw_nz hk_s (by decide))) ⟨(Nat.le_of_ble_eq_true rfl), (Nat.le_of_ble_eq_true rfl), (Nat.le_of_ble_eq_true rfl), (Nat.le_of_ble_eq_true rfl)⟩ ?_
  show sh_cW _ _ (_, _, [.ref (A (20 + s))]) K L _ _ _ _ _
  refine sh_cp (fun w Z k => sh_astore_n dc_Hall_waited_5 rfl (by decide) k) ?_
  refine sh_cp (fun w Z k => sh_aload_n dc_Hall_waited_6 rfl rfl k) ?_
  refine sh_cget (20 + s) 3 dc_Hall_waited_7 (cw_oa (by omega) hk_s) rfl (by decide) fl_Hall_216 rfl rfl rfl rfl ?_
  refine sh_cp (fun w Z k => sh_if_gt (tgt := 23) dc_Hall_waited_10 (by decide) (fun z => absurd z c0_10) (fun _ => k)) ?_
  exact sh_ct (fun w => sh_thr (lx := 2) (tx := "nobody has waited") dc_Hall_waited_13 dc_Hall_waited_16 (Or.inl ⟨dc_Hall_waited_17, rfl⟩) dc_Hall_waited_19 dc_Hall_waited_22 lx_Hall_219_223 (by decide +kernel) rfl (by decide) (by decide) (by decide) (by decide))
theorem ct_Hall_waited_Shared_1 {A : Nat → Nat} {K : sh_II} {L : sh_DD} {s : Nat} (hs : s < 8) (hk_s : cw_cl (K 12 s) = 7) (c0_10 : 0 < (K 21 s)) (v1_32 : vf_n64 (FP.ddiv (L 20 s) (FP.i2d (K 21 s)))) : sh_cM A md_Hall_waited [.ref (A 0), .int (nI s)] K L (.inl (some (.double (FP.ddiv (L 20 s) (FP.i2d (K 21 s)))))) K L := by
  refine sh_cp (fun w Z k => sh_aload_n dc_Hall_waited_0 rfl rfl k) ?_
  refine sh_cp (fun w Z k => sh_iload_n dc_Hall_waited_1 rfl rfl k) ?_
  refine sh_ccall (fun w hw => sh_virt (As := [.int (nI s)]) dc_Hall_waited_2 lm_Hall_syncAt ln_Hall_73 wd_272 wd_2 rfl rfl (Nat.le_of_ble_eq_true rfl) (hw _ _ cw_o0) rfl) (ct_Hall_syncAt_2 (s := s) (by omega) (cw_nz hk_s (by decide))) ⟨(Nat.le_of_ble_eq_true rfl), (Nat.le_of_ble_eq_true rfl), (Nat.le_of_ble_eq_true rfl), (Nat.le_of_ble_eq_true rfl)⟩ ?_
  show sh_cW _ _ (_, _, [.ref (A (20 + s))]) K L _ _ _ _ _
  refine sh_cp (fun w Z k => sh_astore_n dc_Hall_waited_5 rfl (by decide) k) ?_
  refine sh_cp (fun w Z k => sh_aload_n dc_Hall_waited_6 rfl rfl k) ?_
  refine sh_cget (20 + s) 3 dc_Hall_waited_7 (cw_oh (by omega) hk_s) rfl (by decide) fl_Hall_216 rfl rfl rfl rfl ?_
  refine sh_cp (fun w Z k => sh_if_gt (tgt := 23) dc_Hall_waited_10 (by decide) (fun _ => k) (fun z => absurd c0_10 z)) ?_
  refine sh_cp (fun w Z k => sh_aload_n dc_Hall_waited_23 rfl rfl k) ?_
  refine sh_cget (20 + s) 2 dc_Hall_waited_24 (cw_oh (by omega) hk_s) rfl (by decide) fl_Hall_224 rfl rfl rfl rfl ?_
  refine sh_cp (fun w Z k => sh_aload_n dc_Hall_waited_27 rfl rfl k) ?_
  refine sh_cget (20 + s) 3 dc_Hall_waited_28 (cw_oh (by omega) hk_s) rfl (by decide) fl_Hall_216 rfl rfl rfl rfl ?_
  refine sh_cp (fun w Z k => sh_i2d dc_Hall_waited_31 k) ?_
  refine sh_cp (fun w Z k => sh_ddiv dc_Hall_waited_32 v1_32 k) ?_
  exact sh_ce (fun w => sh_dreturn dc_Hall_waited_33 rfl (by decide) (by decide))
theorem ct_Hall_waited_Shared_2 {A : Nat → Nat} {K : sh_II} {L : sh_DD} {s : Nat} (hs : s < 8) (hk_s : cw_cl (K 12 s) = 7) (c0_10 : ¬ 0 < (K 21 s)) : sh_cM A md_Hall_waited [.ref (A 0), .int (nI s)] K L (.inr 5) K L := by
  refine sh_cp (fun w Z k => sh_aload_n dc_Hall_waited_0 rfl rfl k) ?_
  refine sh_cp (fun w Z k => sh_iload_n dc_Hall_waited_1 rfl rfl k) ?_
  refine sh_ccall (fun w hw => sh_virt (As := [.int (nI s)]) dc_Hall_waited_2 lm_Hall_syncAt ln_Hall_73 wd_272 wd_2 rfl rfl (Nat.le_of_ble_eq_true rfl) (hw _ _ cw_o0) rfl) (ct_Hall_syncAt_2 (s := s) (by omega) (cw_nz hk_s (by decide))) ⟨(Nat.le_of_ble_eq_true rfl), (Nat.le_of_ble_eq_true rfl), (Nat.le_of_ble_eq_true rfl), (Nat.le_of_ble_eq_true rfl)⟩ ?_
  show sh_cW _ _ (_, _, [.ref (A (20 + s))]) K L _ _ _ _ _
  refine sh_cp (fun w Z k => sh_astore_n dc_Hall_waited_5 rfl (by decide) k) ?_
  refine sh_cp (fun w Z k => sh_aload_n dc_Hall_waited_6 rfl rfl k) ?_
  refine sh_cget (20 + s) 3 dc_Hall_waited_7 (cw_oh (by omega) hk_s) rfl (by decide) fl_Hall_216 rfl rfl rfl rfl ?_
  refine sh_cp (fun w Z k => sh_if_gt (tgt := 23) dc_Hall_waited_10 (by decide) (fun z => absurd z c0_10) (fun _ => k)) ?_
  exact sh_ct (fun w => sh_thr (lx := 2) (tx := "nobody has waited") dc_Hall_waited_13 dc_Hall_waited_16 (Or.inl ⟨dc_Hall_waited_17, rfl⟩) dc_Hall_waited_19 dc_Hall_waited_22 lx_Hall_219_223 (by decide +kernel) rfl (by decide) (by decide) (by decide) (by decide))
theorem ct_Hall_waited_Condition_1 {A : Nat → Nat} {K : sh_II} {L : sh_DD} {s : Nat} (hs : s < 8) (hk_s : cw_cl (K 12 s) = 8) (c0_10 : 0 < (K 21 s)) (v1_32 : vf_n64 (FP.ddiv (L 20 s) (FP.i2d (K 21 s)))) : sh_cM A md_Hall_waited [.ref (A 0), .int (nI s)] K L (.inl (some (.double (FP.ddiv (L 20 s) (FP.i2d (K 21 s)))))) K L := by
  refine sh_cp (fun w Z k => sh_aload_n dc_Hall_waited_0 rfl rfl k) ?_
  refine sh_cp (fun w Z k => sh_iload_n dc_Hall_waited_1 rfl rfl k) ?_
  refine sh_ccall (fun w hw => sh_virt (As := [.int (nI s)]) dc_Hall_waited_2 lm_Hall_syncAt ln_Hall_73 wd_272 wd_2 rfl rfl (Nat.le_of_ble_eq_true rfl) (hw _ _ cw_o0) rfl) (ct_Hall_syncAt_2 (s := s) (by omega) (cw_nz hk_s (by decide))) ⟨(Nat.le_of_ble_eq_true rfl), (Nat.le_of_ble_eq_true rfl), (Nat.le_of_ble_eq_true rfl), (Nat.le_of_ble_eq_true rfl)⟩ ?_
  show sh_cW _ _ (_, _, [.ref (A (20 + s))]) K L _ _ _ _ _
  refine sh_cp (fun w Z k => sh_astore_n dc_Hall_waited_5 rfl (by decide) k) ?_
  refine sh_cp (fun w Z k => sh_aload_n dc_Hall_waited_6 rfl rfl k) ?_
  refine sh_cget (20 + s) 3 dc_Hall_waited_7 (cw_oc (by omega) hk_s) rfl (by decide) fl_Hall_216 rfl rfl rfl rfl ?_
  refine sh_cp (fun w Z k => sh_if_gt (tgt := 23) dc_Hall_waited_10 (by decide) (fun _ => k) (fun z => absurd c0_10 z)) ?_
  refine sh_cp (fun w Z k => sh_aload_n dc_Hall_waited_23 rfl rfl k) ?_
  refine sh_cget (20 + s) 2 dc_Hall_waited_24 (cw_oc (by omega) hk_s) rfl (by decide) fl_Hall_224 rfl rfl rfl rfl ?_
  refine sh_cp (fun w Z k => sh_aload_n dc_Hall_waited_27 rfl rfl k) ?_
  refine sh_cget (20 + s) 3 dc_Hall_waited_28 (cw_oc (by omega) hk_s) rfl (by decide) fl_Hall_216 rfl rfl rfl rfl ?_
  refine sh_cp (fun w Z k => sh_i2d dc_Hall_waited_31 k) ?_
  refine sh_cp (fun w Z k => sh_ddiv dc_Hall_waited_32 v1_32 k) ?_
  exact sh_ce (fun w => sh_dreturn dc_Hall_waited_33 rfl (by decide) (by decide))
theorem ct_Hall_waited_Condition_2 {A : Nat → Nat} {K : sh_II} {L : sh_DD} {s : Nat} (hs : s < 8) (hk_s : cw_cl (K 12 s) = 8) (c0_10 : ¬ 0 < (K 21 s)) : sh_cM A md_Hall_waited [.ref (A 0), .int (nI s)] K L (.inr 5) K L := by
  refine sh_cp (fun w Z k => sh_aload_n dc_Hall_waited_0 rfl rfl k) ?_
  refine sh_cp (fun w Z k => sh_iload_n dc_Hall_waited_1 rfl rfl k) ?_
  refine sh_ccall (fun w hw => sh_virt (As := [.int (nI s)]) dc_Hall_waited_2 lm_Hall_syncAt ln_Hall_73 wd_272 wd_2 rfl rfl (Nat.le_of_ble_eq_true rfl) (hw _ _ cw_o0) rfl) (ct_Hall_syncAt_2 (s := s) (by omega) (cw_nz hk_s (by decide))) ⟨(Nat.le_of_ble_eq_true rfl), (Nat.le_of_ble_eq_true rfl), (Nat.le_of_ble_eq_true rfl), (Nat.le_of_ble_eq_true rfl)⟩ ?_
  show sh_cW _ _ (_, _, [.ref (A (20 + s))]) K L _ _ _ _ _
  refine sh_cp (fun w Z k => sh_astore_n dc_Hall_waited_5 rfl (by decide) k) ?_
  refine sh_cp (fun w Z k => sh_aload_n dc_Hall_waited_6 rfl rfl k) ?_
  refine sh_cget (20 + s) 3 dc_Hall_waited_7 (cw_oc (by omega) hk_s) rfl (by decide) fl_Hall_216 rfl rfl rfl rfl ?_
  refine sh_cp (fun w Z k => sh_if_gt (tgt := 23) dc_Hall_waited_10 (by decide) (fun z => absurd z c0_10) (fun _ => k)) ?_
  exact sh_ct (fun w => sh_thr (lx := 2) (tx := "nobody has waited") dc_Hall_waited_13 dc_Hall_waited_16 (Or.inl ⟨dc_Hall_waited_17, rfl⟩) dc_Hall_waited_19 dc_Hall_waited_22 lx_Hall_219_223 (by decide +kernel) rfl (by decide) (by decide) (by decide) (by decide))
theorem ct_Hall_interrupt_x_1 {A : Nat → Nat} {K : sh_II} {L : sh_DD} {x : Int32} (c0_2 : x < 0) : sh_cM A md_Hall_interrupt [.ref (A 0), .int x] K L (.inr 1) K L := by
  refine sh_cp (fun w Z k => sh_aload_n dc_Hall_interrupt_0 rfl rfl k) ?_
  refine sh_cp (fun w Z k => sh_iload_n dc_Hall_interrupt_1 rfl rfl k) ?_
  exact sh_ccallT (fun w hw => sh_virt (As := [.int x]) dc_Hall_interrupt_2 lm_Hall_workerAt ln_Hall_62 wd_448 wd_3 rfl rfl (Nat.le_of_ble_eq_true rfl) (hw _ _ cw_o0) rfl) (ct_Hall_workerAt_x_1 (x := x) c0_2) ⟨(Nat.le_of_ble_eq_true rfl), (Nat.le_of_ble_eq_true rfl), (Nat.le_of_ble_eq_true rfl), (Nat.le_of_ble_eq_true rfl)⟩ rfl
theorem ct_Hall_interrupt_x_2 {A : Nat → Nat} {K : sh_II} {L : sh_DD} {x : Int32} (c0_2 : ¬ x < 0) (c1_2 : ¬ x ≤ 5) : sh_cM A md_Hall_interrupt [.ref (A 0), .int x] K L (.inr 1) K L := by
  refine sh_cp (fun w Z k => sh_aload_n dc_Hall_interrupt_0 rfl rfl k) ?_
  refine sh_cp (fun w Z k => sh_iload_n dc_Hall_interrupt_1 rfl rfl k) ?_
  exact sh_ccallT (fun w hw => sh_virt (As := [.int x]) dc_Hall_interrupt_2 lm_Hall_workerAt ln_Hall_62 wd_448 wd_3 rfl rfl (Nat.le_of_ble_eq_true rfl) (hw _ _ cw_o0) rfl) (ct_Hall_workerAt_x_2 (x := x) c0_2 c1_2) ⟨(Nat.le_of_ble_eq_true rfl), (Nat.le_of_ble_eq_true rfl), (Nat.le_of_ble_eq_true rfl), (Nat.le_of_ble_eq_true rfl)⟩ rfl
theorem ct_Hall_interrupt_1 {A : Nat → Nat} {K : sh_II} {L : sh_DD} {t : Nat} (ht : t < 6) (c0_7 : (K 5 t) = -1) : sh_cM A md_Hall_interrupt [.ref (A 0), .int (nI t)] K L (.inl (some (.int (K 4 t)))) (sh_u2 K 2 t 1) L := by
  refine sh_cp (fun w Z k => sh_aload_n dc_Hall_interrupt_0 rfl rfl k) ?_
  refine sh_cp (fun w Z k => sh_iload_n dc_Hall_interrupt_1 rfl rfl k) ?_
  refine sh_ccall (fun w hw => sh_virt (As := [.int (nI t)]) dc_Hall_interrupt_2 lm_Hall_workerAt ln_Hall_62 wd_448 wd_3 rfl rfl (Nat.le_of_ble_eq_true rfl) (hw _ _ cw_o0) rfl) (ct_Hall_workerAt_1 (t := t) (by omega)) ⟨(Nat.le_of_ble_eq_true rfl), (Nat.le_of_ble_eq_true rfl), (Nat.le_of_ble_eq_true rfl), (Nat.le_of_ble_eq_true rfl)⟩ ?_
  show sh_cW _ _ (_, _, [.ref (A (10 + t))]) K L _ _ _ _ _
  refine sh_cp (fun w Z k => sh_astore_n dc_Hall_interrupt_5 rfl (by decide) k) ?_
  refine sh_cp (fun w Z k => sh_aload_n dc_Hall_interrupt_6 rfl rfl k) ?_
  refine sh_ccall (fun w hw => sh_virt (As := []) dc_Hall_interrupt_7 lm_Worker_isBlocked ln_Hall_176 wd_467 wd_4 rfl rfl (Nat.le_of_ble_eq_true rfl) (hw _ _ (cw_ow (by omega))) rfl) (ct_Worker_isBlocked_1 (t := t) (by omega) c0_7) ⟨(Nat.le_of_ble_eq_true rfl), (Nat.le_of_ble_eq_true rfl), (Nat.le_of_ble_eq_true rfl), (Nat.le_of_ble_eq_true rfl)⟩ ?_
  show sh_cW _ _ (_, _, [.int 0]) K L _ _ _ _ _
  refine sh_cp (fun w Z k => sh_if_eq (tgt := 20) dc_Hall_interrupt_10 (by decide) (fun _ => k) (fun z => absurd (by decide) z)) ?_
  refine sh_cp (fun w Z k => sh_aload_n dc_Hall_interrupt_20 rfl rfl k) ?_
  refine sh_cp (fun w Z k => sh_iconst (v := 1) dc_Hall_interrupt_21 (by decide) k) ?_
  refine sh_cput (K1 := (sh_u2 K 2 t 1)) (L1 := L) (10 + t) 2 dc_Hall_interrupt_22 (cw_ow (by omega)) rfl (by decide) fl_Hall_183 rfl rfl rfl rfl pd_Z rfl rfl (cq_Worker_2 (by omega)) (fun i hi => cw_upI (by decide) hi) ?_
  refine sh_cp (fun w Z k => sh_goto_ (tgt := 34) dc_Hall_interrupt_25 (by decide) k) ?_
  refine sh_cp (fun w Z k => sh_aload_n dc_Hall_interrupt_34 rfl rfl k) ?_
  refine sh_cget (10 + t) 3 dc_Hall_interrupt_35 (cw_ow (by omega)) rfl (by decide) fl_Hall_127 rfl rfl rfl rfl ?_
  refine sh_cti (show (sh_u2 K 2 t 1) 4 t = K 4 t from (sh_u2_row (by decide) _)) ?_
  exact sh_ce (fun w => sh_ireturn dc_Hall_interrupt_38 rfl rfl (by decide) (by decide))
theorem ct_Hall_interrupt_2 {A : Nat → Nat} {K : sh_II} {L : sh_DD} {t : Nat} {u5_7 : Nat} {K7_31 : sh_II} {L7_31 : sh_DD} (ht : t < 6) (hu5_7 : u5_7 < 8) (c1_7 : (K 5 t) = nI u5_7) (c2_17 : (K 27 t) = 0) (v3_31 : sp_GU K L t 3 K7_31 L7_31) : sh_cM A md_Hall_interrupt [.ref (A 0), .int (nI t)] K L (.inl (some (.int (K7_31 4 t)))) K7_31 L7_31 := by
  refine sh_cp (fun w Z k => sh_aload_n dc_Hall_interrupt_0 rfl rfl k) ?_
  refine sh_cp (fun w Z k => sh_iload_n dc_Hall_interrupt_1 rfl rfl k) ?_
  refine sh_ccall (fun w hw => sh_virt (As := [.int (nI t)]) dc_Hall_interrupt_2 lm_Hall_workerAt ln_Hall_62 wd_448 wd_3 rfl rfl (Nat.le_of_ble_eq_true rfl) (hw _ _ cw_o0) rfl) (ct_Hall_workerAt_1 (t := t) (by omega)) ⟨(Nat.le_of_ble_eq_true rfl), (Nat.le_of_ble_eq_true rfl), (Nat.le_of_ble_eq_true rfl), (Nat.le_of_ble_eq_true rfl)⟩ ?_
  show sh_cW _ _ (_, _, [.ref (A (10 + t))]) K L _ _ _ _ _
  refine sh_cp (fun w Z k => sh_astore_n dc_Hall_interrupt_5 rfl (by decide) k) ?_
  refine sh_cp (fun w Z k => sh_aload_n dc_Hall_interrupt_6 rfl rfl k) ?_
  refine sh_ccall (fun w hw => sh_virt (As := []) dc_Hall_interrupt_7 lm_Worker_isBlocked ln_Hall_176 wd_467 wd_4 rfl rfl (Nat.le_of_ble_eq_true rfl) (hw _ _ (cw_ow (by omega))) rfl) (ct_Worker_isBlocked_2 (t := t) (u5_1 := u5_7) (by omega) (by omega) c1_7) ⟨(Nat.le_of_ble_eq_true rfl), (Nat.le_of_ble_eq_true rfl), (Nat.le_of_ble_eq_true rfl), (Nat.le_of_ble_eq_true rfl)⟩ ?_
  show sh_cW _ _ (_, _, [.int 1]) K L _ _ _ _ _
  refine sh_cp (fun w Z k => sh_if_eq (tgt := 20) dc_Hall_interrupt_10 (by decide) (fun z => absurd z (by decide)) (fun _ => k)) ?_
  refine sh_cp (fun w Z k => sh_aload_n dc_Hall_interrupt_13 rfl rfl k) ?_
  refine sh_cget (10 + t) 11 dc_Hall_interrupt_14 (cw_ow (by omega)) rfl (by decide) fl_Hall_179 rfl rfl rfl rfl ?_
  refine sh_cp (fun w Z k => sh_if_eq (tgt := 28) dc_Hall_interrupt_17 (by decide) (fun _ => k) (fun z => absurd c2_17 z)) ?_
  refine sh_cp (fun w Z k => sh_aload_n dc_Hall_interrupt_28 rfl rfl k) ?_
  refine sh_cp (fun w Z k => sh_aload_n dc_Hall_interrupt_29 rfl rfl k) ?_
  refine sh_cp (fun w Z k => sh_iconst (v := 3) dc_Hall_interrupt_30 (by decide) k) ?_
  refine sh_ccall (fun w hw => sh_virt (As := [.ref (A (10 + t)), .int 3]) dc_Hall_interrupt_31 lm_Hall_giveUp ln_Hall_186 wd_779 wd_27 rfl rfl (Nat.le_of_ble_eq_true rfl) (hw _ _ cw_o0) rfl) (cl_giveUp (t := t) (x := 3) (by omega) v3_31) ⟨(Nat.le_of_ble_eq_true rfl), (Nat.le_of_ble_eq_true rfl), (Nat.le_of_ble_eq_true rfl), (Nat.le_of_ble_eq_true rfl)⟩ ?_
  show sh_cW _ _ (_, _, []) K7_31 L7_31 _ _ _ _ _
  refine sh_cp (fun w Z k => sh_aload_n dc_Hall_interrupt_34 rfl rfl k) ?_
  refine sh_cget (10 + t) 3 dc_Hall_interrupt_35 (cw_ow (by omega)) rfl (by decide) fl_Hall_127 rfl rfl rfl rfl ?_
  exact sh_ce (fun w => sh_ireturn dc_Hall_interrupt_38 rfl rfl (by decide) (by decide))
theorem ct_Hall_interrupt_3 {A : Nat → Nat} {K : sh_II} {L : sh_DD} {t : Nat} {u5_7 : Nat} (ht : t < 6) (hu5_7 : u5_7 < 8) (c1_7 : (K 5 t) = nI u5_7) (c2_17 : ¬ (K 27 t) = 0) : sh_cM A md_Hall_interrupt [.ref (A 0), .int (nI t)] K L (.inl (some (.int (K 4 t)))) (sh_u2 K 2 t 1) L := by
  refine sh_cp (fun w Z k => sh_aload_n dc_Hall_interrupt_0 rfl rfl k) ?_
  refine sh_cp (fun w Z k => sh_iload_n dc_Hall_interrupt_1 rfl rfl k) ?_
  refine sh_ccall (fun w hw => sh_virt (As := [.int (nI t)]) dc_Hall_interrupt_2 lm_Hall_workerAt ln_Hall_62 wd_448 wd_3 rfl rfl (Nat.le_of_ble_eq_true rfl) (hw _ _ cw_o0) rfl) (ct_Hall_workerAt_1 (t := t) (by omega)) ⟨(Nat.le_of_ble_eq_true rfl), (Nat.le_of_ble_eq_true rfl), (Nat.le_of_ble_eq_true rfl), (Nat.le_of_ble_eq_true rfl)⟩ ?_
  show sh_cW _ _ (_, _, [.ref (A (10 + t))]) K L _ _ _ _ _
  refine sh_cp (fun w Z k => sh_astore_n dc_Hall_interrupt_5 rfl (by decide) k) ?_
  refine sh_cp (fun w Z k => sh_aload_n dc_Hall_interrupt_6 rfl rfl k) ?_
  refine sh_ccall (fun w hw => sh_virt (As := []) dc_Hall_interrupt_7 lm_Worker_isBlocked ln_Hall_176 wd_467 wd_4 rfl rfl (Nat.le_of_ble_eq_true rfl) (hw _ _ (cw_ow (by omega))) rfl) (ct_Worker_isBlocked_2 (t := t) (u5_1 := u5_7) (by omega) (by omega) c1_7) ⟨(Nat.le_of_ble_eq_true rfl), (Nat.le_of_ble_eq_true rfl), (Nat.le_of_ble_eq_true rfl), (Nat.le_of_ble_eq_true rfl)⟩ ?_
  show sh_cW _ _ (_, _, [.int 1]) K L _ _ _ _ _
  refine sh_cp (fun w Z k => sh_if_eq (tgt := 20) dc_Hall_interrupt_10 (by decide) (fun z => absurd z (by decide)) (fun _ => k)) ?_
  refine sh_cp (fun w Z k => sh_aload_n dc_Hall_interrupt_13 rfl rfl k) ?_
  refine sh_cget (10 + t) 11 dc_Hall_interrupt_14 (cw_ow (by omega)) rfl (by decide) fl_Hall_179 rfl rfl rfl rfl ?_
  refine sh_cp (fun w Z k => sh_if_eq (tgt := 28) dc_Hall_interrupt_17 (by decide) (fun z => absurd z c2_17) (fun _ => k)) ?_
  refine sh_cp (fun w Z k => sh_aload_n dc_Hall_interrupt_20 rfl rfl k) ?_
  refine sh_cp (fun w Z k => sh_iconst (v := 1) dc_Hall_interrupt_21 (by decide) k) ?_
  refine sh_cput (K1 := (sh_u2 K 2 t 1)) (L1 := L) (10 + t) 2 dc_Hall_interrupt_22 (cw_ow (by omega)) rfl (by decide) fl_Hall_183 rfl rfl rfl rfl pd_Z rfl rfl (cq_Worker_2 (by omega)) (fun i hi => cw_upI (by decide) hi) ?_
  refine sh_cp (fun w Z k => sh_goto_ (tgt := 34) dc_Hall_interrupt_25 (by decide) k) ?_
  refine sh_cp (fun w Z k => sh_aload_n dc_Hall_interrupt_34 rfl rfl k) ?_
  refine sh_cget (10 + t) 3 dc_Hall_interrupt_35 (cw_ow (by omega)) rfl (by decide) fl_Hall_127 rfl rfl rfl rfl ?_
  refine sh_cti (show (sh_u2 K 2 t 1) 4 t = K 4 t from (sh_u2_row (by decide) _)) ?_
  exact sh_ce (fun w => sh_ireturn dc_Hall_interrupt_38 rfl rfl (by decide) (by decide))
theorem cb_Hall_tick_p_0_1 {A : Nat → Nat} {K : sh_II} {L : sh_DD} {y : UInt64} (c0_5 : (Op.cmpValue (FP.dcmp y (FP.i2d 0)) .l) < 0) : sh_cW A md_Hall_tick (0, [(0, .ref (A 0)), (1, .double y)], []) K L 0 0 (.inr 1) K L := by
  refine sh_cp (fun w Z k => sh_dload_n dc_Hall_tick_0 rfl rfl k) ?_
  refine sh_cp (fun w Z k => sh_iconst (v := 0) dc_Hall_tick_1 (by decide) k) ?_
  refine sh_cp (fun w Z k => sh_sipush (v := 1000) dc_Hall_tick_2 (by decide) k) ?_
  exact sh_ccallT (fun w hw => sh_stat (As := [.double y, .int 0, .int 1000]) dc_Hall_tick_5 lm_Hall_checkAmount ln_Hall_66 wd_451 wd_49 rfl rfl (Nat.le_of_ble_eq_true rfl)) (ct_Hall_checkAmount_1 (x := y) (lo := 0) (hi := 1000) c0_5) ⟨(Nat.le_of_ble_eq_true rfl), (Nat.le_of_ble_eq_true rfl), (Nat.le_of_ble_eq_true rfl), (Nat.le_of_ble_eq_true rfl)⟩ rfl
theorem cb_Hall_tick_p_0_2 {A : Nat → Nat} {K K9 : sh_II} {L L9 : sh_DD} {v9 : Option Value ⊕ Nat} {y : UInt64} (c0_5 : ¬ (Op.cmpValue (FP.dcmp y (FP.i2d 0)) .l) < 0) (c1_5 : (Op.cmpValue (FP.dcmp y (FP.i2d 1000)) .g) ≤ 0) (v2_14 : vf_n64 (FP.dadd (L 11 0) y)) (k9 : sh_cW A md_Hall_tick (23, [(0, .ref (A 0)), (3, .int 0), (4, .int 0)], []) K (sh_u2 L 11 0 (FP.dadd (L 11 0) y)) (0 + 1) (0 + 6) v9 K9 L9) : sh_cW A md_Hall_tick (0, [(0, .ref (A 0)), (1, .double y)], []) K L 0 0 v9 K9 L9 := by
  refine sh_cp (fun w Z k => sh_dload_n dc_Hall_tick_0 rfl rfl k) ?_
  refine sh_cp (fun w Z k => sh_iconst (v := 0) dc_Hall_tick_1 (by decide) k) ?_
  refine sh_cp (fun w Z k => sh_sipush (v := 1000) dc_Hall_tick_2 (by decide) k) ?_
  refine sh_ccall (fun w hw => sh_stat (As := [.double y, .int 0, .int 1000]) dc_Hall_tick_5 lm_Hall_checkAmount ln_Hall_66 wd_451 wd_49 rfl rfl (Nat.le_of_ble_eq_true rfl)) (ct_Hall_checkAmount_2 (x := y) (lo := 0) (hi := 1000) c0_5 c1_5) ⟨(Nat.le_of_ble_eq_true rfl), (Nat.le_of_ble_eq_true rfl), (Nat.le_of_ble_eq_true rfl), (Nat.le_of_ble_eq_true rfl)⟩ ?_
  show sh_cW _ _ (_, _, []) K L _ _ _ _ _
  refine sh_cp (fun w Z k => sh_aload_n dc_Hall_tick_8 rfl rfl k) ?_
  refine sh_cp (fun w Z k => sh_aload_n dc_Hall_tick_9 rfl rfl k) ?_
  refine sh_cget 0 4 dc_Hall_tick_10 cw_o0 rfl (by decide) fl_Hall_35 rfl rfl rfl rfl ?_
  refine sh_cp (fun w Z k => sh_dload_n dc_Hall_tick_13 rfl rfl k) ?_
  refine sh_cp (fun w Z k => sh_dadd dc_Hall_tick_14 v2_14 k) ?_
  refine sh_cput (K1 := K) (L1 := (sh_u2 L 11 0 (FP.dadd (L 11 0) y))) 0 4 dc_Hall_tick_15 cw_o0 rfl (by decide) fl_Hall_35 rfl rfl rfl rfl pd_D rfl rfl (cq_Hall_11 ) (fun i hi => cw_upD hi) ?_
  refine sh_cp (fun w Z k => sh_iconst (v := 0) dc_Hall_tick_18 (by decide) k) ?_
  refine sh_cp (fun w Z k => sh_istore_n dc_Hall_tick_19 rfl (by decide) k) ?_
  refine sh_cp (fun w Z k => sh_iconst (v := 0) dc_Hall_tick_20 (by decide) k) ?_
  refine sh_cp (fun w Z k => sh_istore dc_Hall_tick_21 (by decide) k) ?_
  refine sh_clv [2, 1, 0] rfl ?_
  exact k9
theorem cb_Hall_tick_p_0_3 {A : Nat → Nat} {K : sh_II} {L : sh_DD} {y : UInt64} (c0_5 : ¬ (Op.cmpValue (FP.dcmp y (FP.i2d 0)) .l) < 0) (c1_5 : ¬ (Op.cmpValue (FP.dcmp y (FP.i2d 1000)) .g) ≤ 0) : sh_cW A md_Hall_tick (0, [(0, .ref (A 0)), (1, .double y)], []) K L 0 0 (.inr 1) K L := by
  refine sh_cp (fun w Z k => sh_dload_n dc_Hall_tick_0 rfl rfl k) ?_
  refine sh_cp (fun w Z k => sh_iconst (v := 0) dc_Hall_tick_1 (by decide) k) ?_
  refine sh_cp (fun w Z k => sh_sipush (v := 1000) dc_Hall_tick_2 (by decide) k) ?_
  exact sh_ccallT (fun w hw => sh_stat (As := [.double y, .int 0, .int 1000]) dc_Hall_tick_5 lm_Hall_checkAmount ln_Hall_66 wd_451 wd_49 rfl rfl (Nat.le_of_ble_eq_true rfl)) (ct_Hall_checkAmount_3 (x := y) (lo := 0) (hi := 1000) c0_5 c1_5) ⟨(Nat.le_of_ble_eq_true rfl), (Nat.le_of_ble_eq_true rfl), (Nat.le_of_ble_eq_true rfl), (Nat.le_of_ble_eq_true rfl)⟩ rfl
theorem cb_Hall_tick_e_23_1 {A : Nat → Nat} {K : sh_II} {L : sh_DD} {e : Nat} {i : Nat} (hx : 6 ≤ (nI i)) : sh_cW A md_Hall_tick (23, [(0, .ref (A 0)), (3, .int (nI e)), (4, .int (nI i))], []) K L (0 + 1) (0 + 6) (.inl (some (.int (nI e)))) K L := by
  refine sh_cp (fun w Z k => sh_iload dc_Hall_tick_23 rfl k) ?_
  refine sh_cp (fun w Z k => sh_bipush (v := 6) dc_Hall_tick_25 (by decide) k) ?_
  refine sh_cp (fun w Z k => sh_icmp_ge (tgt := 60) dc_Hall_tick_27 (by decide) (fun _ => k) (fun z => absurd hx z)) ?_
  refine sh_cp (fun w Z k => sh_iload_n dc_Hall_tick_60 rfl rfl k) ?_
  exact sh_ce (fun w => sh_ireturn dc_Hall_tick_61 rfl rfl (by decide) (by decide))
theorem cb_Hall_tick_23_1 {A : Nat → Nat} {K : sh_II} {L : sh_DD} {e : Nat} {i : Nat} (hi : i < 6) (hx : ¬ 6 ≤ (nI i)) (c0_31 : (sp_late K L) = none) : sh_cW A md_Hall_tick (23, [(0, .ref (A 0)), (3, .int (nI e)), (4, .int (nI i))], []) K L (0 + 1) (0 + 6) (.inl (some (.int (nI e)))) K L := by
  refine sh_cp (fun w Z k => sh_iload dc_Hall_tick_23 rfl k) ?_
  refine sh_cp (fun w Z k => sh_bipush (v := 6) dc_Hall_tick_25 (by decide) k) ?_
  refine sh_cp (fun w Z k => sh_icmp_ge (tgt := 60) dc_Hall_tick_27 (by decide) (fun z => absurd z hx) (fun _ => k)) ?_
  refine sh_cp (fun w Z k => sh_aload_n dc_Hall_tick_30 rfl rfl k) ?_
  refine sh_ccall (fun w hw => sh_virt (As := []) dc_Hall_tick_31 lm_Hall_nextLate ln_Hall_189 wd_791 wd_28 rfl rfl (Nat.le_of_ble_eq_true rfl) (hw _ _ cw_o0) rfl) (cl_nextLate) ⟨(Nat.le_of_ble_eq_true rfl), (Nat.le_of_ble_eq_true rfl), (Nat.le_of_ble_eq_true rfl), (Nat.le_of_ble_eq_true rfl)⟩ ?_
  show sh_cW _ _ (_, _, [va_rf ((sp_late K L).map fun u => A (10 + u))]) K L _ _ _ _ _
  refine sh_ctv (show _ = Value.null by rw [c0_31]; rfl) ?_
  refine sh_cp (fun w Z k => sh_astoreN dc_Hall_tick_34 (by decide) k) ?_
  refine sh_cp (fun w Z k => sh_aloadq (x := none) dc_Hall_tick_36 rfl k) ?_
  show sh_cW _ _ (_, _, .null :: _) _ _ _ _ _ _ _
  refine sh_cp (fun w Z k => sh_ifnonnullN dc_Hall_tick_38 k) ?_
  refine sh_cp (fun w Z k => sh_goto_ (tgt := 60) dc_Hall_tick_41 (by decide) k) ?_
  refine sh_cp (fun w Z k => sh_iload_n dc_Hall_tick_60 rfl rfl k) ?_
  exact sh_ce (fun w => sh_ireturn dc_Hall_tick_61 rfl rfl (by decide) (by decide))
theorem cb_Hall_tick_23_2 {A : Nat → Nat} {K K9 : sh_II} {L L9 : sh_DD} {v9 : Option Value ⊕ Nat} {e : Nat} {i : Nat} {q31 : Nat} {K7_48 : sh_II} {L7_48 : sh_DD} (hi : i < 6) (hx : ¬ 6 ≤ (nI i)) (hq31 : q31 < 6) (c1_31 : (sp_late K L) = some q31) (v2_48 : sp_GU K L q31 2 K7_48 L7_48) (k9 : sh_cW A md_Hall_tick (23, [(0, .ref (A 0)), (3, .int (nI (e + 1))), (4, .int (nI (i + 1)))], []) K7_48 L7_48 (0 + 1) (0 + 6) v9 K9 L9) : sh_cW A md_Hall_tick (23, [(0, .ref (A 0)), (3, .int (nI e)), (4, .int (nI i))], []) K L (0 + 1) (0 + 6) v9 K9 L9 := by
  refine sh_cp (fun w Z k => sh_iload dc_Hall_tick_23 rfl k) ?_
  refine sh_cp (fun w Z k => sh_bipush (v := 6) dc_Hall_tick_25 (by decide) k) ?_
  refine sh_cp (fun w Z k => sh_icmp_ge (tgt := 60) dc_Hall_tick_27 (by decide) (fun z => absurd z hx) (fun _ => k)) ?_
  refine sh_cp (fun w Z k => sh_aload_n dc_Hall_tick_30 rfl rfl k) ?_
  refine sh_ccall (fun w hw => sh_virt (As := []) dc_Hall_tick_31 lm_Hall_nextLate ln_Hall_189 wd_791 wd_28 rfl rfl (Nat.le_of_ble_eq_true rfl) (hw _ _ cw_o0) rfl) (cl_nextLate) ⟨(Nat.le_of_ble_eq_true rfl), (Nat.le_of_ble_eq_true rfl), (Nat.le_of_ble_eq_true rfl), (Nat.le_of_ble_eq_true rfl)⟩ ?_
  show sh_cW _ _ (_, _, [va_rf ((sp_late K L).map fun u => A (10 + u))]) K L _ _ _ _ _
  refine sh_ctv (show _ = Value.ref (A (10 + q31)) by rw [c1_31]; rfl) ?_
  refine sh_cp (fun w Z k => sh_astore dc_Hall_tick_34 (by decide) k) ?_
  refine sh_cp (fun w Z k => sh_aload dc_Hall_tick_36 rfl k) ?_
  refine sh_cp (fun w Z k => sh_ifnonnull (tgt := 44) dc_Hall_tick_38 (by decide) k) ?_
  refine sh_cp (fun w Z k => sh_aload_n dc_Hall_tick_44 rfl rfl k) ?_
  refine sh_cp (fun w Z k => sh_aload dc_Hall_tick_45 rfl k) ?_
  refine sh_cp (fun w Z k => sh_iconst (v := 2) dc_Hall_tick_47 (by decide) k) ?_
  refine sh_ccall (fun w hw => sh_virt (As := [.ref (A (10 + q31)), .int 2]) dc_Hall_tick_48 lm_Hall_giveUp ln_Hall_186 wd_779 wd_27 rfl rfl (Nat.le_of_ble_eq_true rfl) (hw _ _ cw_o0) rfl) (cl_giveUp (t := q31) (x := 2) (by omega) v2_48) ⟨(Nat.le_of_ble_eq_true rfl), (Nat.le_of_ble_eq_true rfl), (Nat.le_of_ble_eq_true rfl), (Nat.le_of_ble_eq_true rfl)⟩ ?_
  show sh_cW _ _ (_, _, []) K7_48 L7_48 _ _ _ _ _
  refine sh_cp (fun w Z k => sh_iinc (v := nI (e + 1)) dc_Hall_tick_51 rfl (sh_nadd rfl (rfl : (1 : Int32) = nI 1)) (by decide) k) ?_
  refine sh_cp (fun w Z k => sh_iinc (v := nI (i + 1)) dc_Hall_tick_54 rfl (sh_nadd rfl (rfl : (1 : Int32) = nI 1)) (by decide) k) ?_
  refine sh_cp (fun w Z k => sh_goto_ (tgt := 23) dc_Hall_tick_57 (by decide) k) ?_
  refine sh_clv [3, 1, 0] rfl ?_
  exact k9
