theorem sp_le5 {t : Nat} (h : t < 6) : nI t ≤ 5 := nI_le (b := 5) (by omega) (by decide)
theorem sp_le7 {s : Nat} (h : s < 8) : nI s ≤ 7 := nI_le (b := 7) (by omega) (by decide)
theorem ct_Hall_workerAt_1 {A : Nat → Nat} {K : sh_II} {L : sh_DD} {t : Nat} (ht : t < 6) : sh_cM A md_Hall_workerAt [.ref (A 0), .int (nI t)] K L (.inl (some (.ref (A (10 + t))))) K L := by
  refine sh_cp (fun w Z k => sh_iload_n dc_Hall_workerAt_0 rfl rfl k) ?_
  refine sh_cp (fun w Z k => sh_iconst (v := 0) dc_Hall_workerAt_1 (by decide) k) ?_
  refine sh_cp (fun w Z k => sh_iconst (v := 5) dc_Hall_workerAt_2 (by decide) k) ?_
  refine sh_ccall (fun w hw => sh_stat (As := [.int (nI t), .int 0, .int 5]) dc_Hall_workerAt_3 lm_Hall_checkNumber ln_Hall_39 wd_191 wd_49 rfl rfl (Nat.le_of_ble_eq_true rfl)) (ct_Hall_checkNumber_2 (x := nI t) (lo := 0) (hi := 5) (nI_pos (by omega)) (sp_le5 ht)) ⟨(Nat.le_of_ble_eq_true rfl), (Nat.le_of_ble_eq_true rfl), (Nat.le_of_ble_eq_true rfl), (Nat.le_of_ble_eq_true rfl)⟩ ?_
  show sh_cW _ _ (_, _, []) K L _ _ _ _ _
  refine sh_cp (fun w Z k => sh_aload_n dc_Hall_workerAt_6 rfl rfl k) ?_
  refine sh_cget 0 0 dc_Hall_workerAt_7 cw_o0 rfl (by decide) fl_Hall_11 rfl rfl rfl rfl ?_
  refine sh_cp (fun w Z k => sh_iload_n dc_Hall_workerAt_10 rfl rfl k) ?_
  refine sh_caald 1 (k := t) dc_Hall_workerAt_11 cw_o1 rfl rfl (by omega) (by decide) ?_
  exact sh_ce (fun w => sh_areturn (v := (some (A (10 + t)))) dc_Hall_workerAt_12 rfl (by decide) (by decide))
theorem ct_Hall_workerAt_x_1 {A : Nat → Nat} {K : sh_II} {L : sh_DD} {x : Int32} (c0_3 : x < 0) : sh_cM A md_Hall_workerAt [.ref (A 0), .int x] K L (.inr 1) K L := by
  refine sh_cp (fun w Z k => sh_iload_n dc_Hall_workerAt_0 rfl rfl k) ?_
  refine sh_cp (fun w Z k => sh_iconst (v := 0) dc_Hall_workerAt_1 (by decide) k) ?_
  refine sh_cp (fun w Z k => sh_iconst (v := 5) dc_Hall_workerAt_2 (by decide) k) ?_
  exact sh_ccallT (fun w hw => sh_stat (As := [.int x, .int 0, .int 5]) dc_Hall_workerAt_3 lm_Hall_checkNumber ln_Hall_39 wd_191 wd_49 rfl rfl (Nat.le_of_ble_eq_true rfl)) (ct_Hall_checkNumber_1 (x := x) (lo := 0) (hi := 5) c0_3) ⟨(Nat.le_of_ble_eq_true rfl), (Nat.le_of_ble_eq_true rfl), (Nat.le_of_ble_eq_true rfl), (Nat.le_of_ble_eq_true rfl)⟩ rfl
theorem ct_Hall_workerAt_x_2 {A : Nat → Nat} {K : sh_II} {L : sh_DD} {x : Int32} (c0_3 : ¬ x < 0) (c1_3 : ¬ x ≤ 5) : sh_cM A md_Hall_workerAt [.ref (A 0), .int x] K L (.inr 1) K L := by
  refine sh_cp (fun w Z k => sh_iload_n dc_Hall_workerAt_0 rfl rfl k) ?_
  refine sh_cp (fun w Z k => sh_iconst (v := 0) dc_Hall_workerAt_1 (by decide) k) ?_
  refine sh_cp (fun w Z k => sh_iconst (v := 5) dc_Hall_workerAt_2 (by decide) k) ?_
  exact sh_ccallT (fun w hw => sh_stat (As := [.int x, .int 0, .int 5]) dc_Hall_workerAt_3 lm_Hall_checkNumber ln_Hall_39 wd_191 wd_49 rfl rfl (Nat.le_of_ble_eq_true rfl)) (ct_Hall_checkNumber_3 (x := x) (lo := 0) (hi := 5) c0_3 c1_3) ⟨(Nat.le_of_ble_eq_true rfl), (Nat.le_of_ble_eq_true rfl), (Nat.le_of_ble_eq_true rfl), (Nat.le_of_ble_eq_true rfl)⟩ rfl
theorem ct_Hall_syncAt_1 {A : Nat → Nat} {K : sh_II} {L : sh_DD} {s : Nat} (hs : s < 8) (c0_12 : cw_cl (K 12 s) = 0) : sh_cM A md_Hall_syncAt [.ref (A 0), .int (nI s)] K L (.inr 2) K L := by
  refine sh_cp (fun w Z k => sh_iload_n dc_Hall_syncAt_0 rfl rfl k) ?_
  refine sh_cp (fun w Z k => sh_iconst (v := 0) dc_Hall_syncAt_1 (by decide) k) ?_
  refine sh_cp (fun w Z k => sh_bipush (v := 7) dc_Hall_syncAt_2 (by decide) k) ?_
  refine sh_ccall (fun w hw => sh_stat (As := [.int (nI s), .int 0, .int 7]) dc_Hall_syncAt_4 lm_Hall_checkNumber ln_Hall_39 wd_191 wd_49 rfl rfl (Nat.le_of_ble_eq_true rfl)) (ct_Hall_checkNumber_2 (x := nI s) (lo := 0) (hi := 7) (nI_pos (by omega)) (sp_le7 hs)) ⟨(Nat.le_of_ble_eq_true rfl), (Nat.le_of_ble_eq_true rfl), (Nat.le_of_ble_eq_true rfl), (Nat.le_of_ble_eq_true rfl)⟩ ?_
  show sh_cW _ _ (_, _, []) K L _ _ _ _ _
  refine sh_cp (fun w Z k => sh_aload_n dc_Hall_syncAt_7 rfl rfl k) ?_
  refine sh_cget 0 1 dc_Hall_syncAt_8 cw_o0 rfl (by decide) fl_Hall_20 rfl rfl rfl rfl ?_
  refine sh_cp (fun w Z k => sh_iload_n dc_Hall_syncAt_11 rfl rfl k) ?_
  refine sh_caald 2 (k := s) dc_Hall_syncAt_12 cw_o2 rfl rfl (by omega) (by decide) ?_
  refine sh_ctv (if_pos c0_12) ?_
  refine sh_cp (fun w Z k => sh_astore_nN dc_Hall_syncAt_13 rfl (by decide) k) ?_
  refine sh_cp (fun w Z k => sh_aload_nq (x := none) dc_Hall_syncAt_14 rfl rfl k) ?_
  show sh_cW _ _ (_, _, .null :: _) _ _ _ _ _ _ _
  refine sh_cp (fun w Z k => sh_ifnonnullN dc_Hall_syncAt_15 k) ?_
  exact sh_ct (fun w => sh_thr (lx := 2) (tx := "the sync is not there") dc_Hall_syncAt_18 dc_Hall_syncAt_21 (Or.inl ⟨dc_Hall_syncAt_22, rfl⟩) dc_Hall_syncAt_24 dc_Hall_syncAt_27 lx_Hall_236_240 (by decide +kernel) rfl (by decide) (by decide) (by decide) (by decide))
theorem ct_Hall_syncAt_2 {A : Nat → Nat} {K : sh_II} {L : sh_DD} {s : Nat} (hs : s < 8) (c0_12 : ¬ cw_cl (K 12 s) = 0) : sh_cM A md_Hall_syncAt [.ref (A 0), .int (nI s)] K L (.inl (some (.ref (A (20 + s))))) K L := by
  refine sh_cp (fun w Z k => sh_iload_n dc_Hall_syncAt_0 rfl rfl k) ?_
  refine sh_cp (fun w Z k => sh_iconst (v := 0) dc_Hall_syncAt_1 (by decide) k) ?_
  refine sh_cp (fun w Z k => sh_bipush (v := 7) dc_Hall_syncAt_2 (by decide) k) ?_
  refine sh_ccall (fun w hw => sh_stat (As := [.int (nI s), .int 0, .int 7]) dc_Hall_syncAt_4 lm_Hall_checkNumber ln_Hall_39 wd_191 wd_49 rfl rfl (Nat.le_of_ble_eq_true rfl)) (ct_Hall_checkNumber_2 (x := nI s) (lo := 0) (hi := 7) (nI_pos (by omega)) (sp_le7 hs)) ⟨(Nat.le_of_ble_eq_true rfl), (Nat.le_of_ble_eq_true rfl), (Nat.le_of_ble_eq_true rfl), (Nat.le_of_ble_eq_true rfl)⟩ ?_
  show sh_cW _ _ (_, _, []) K L _ _ _ _ _
  refine sh_cp (fun w Z k => sh_aload_n dc_Hall_syncAt_7 rfl rfl k) ?_
  refine sh_cget 0 1 dc_Hall_syncAt_8 cw_o0 rfl (by decide) fl_Hall_20 rfl rfl rfl rfl ?_
  refine sh_cp (fun w Z k => sh_iload_n dc_Hall_syncAt_11 rfl rfl k) ?_
  refine sh_caald 2 (k := s) dc_Hall_syncAt_12 cw_o2 rfl rfl (by omega) (by decide) ?_
  refine sh_ctv (if_neg c0_12) ?_
  refine sh_cp (fun w Z k => sh_astore_n dc_Hall_syncAt_13 rfl (by decide) k) ?_
  refine sh_cp (fun w Z k => sh_aload_n dc_Hall_syncAt_14 rfl rfl k) ?_
  refine sh_cp (fun w Z k => sh_ifnonnull (tgt := 28) dc_Hall_syncAt_15 (by decide) k) ?_
  refine sh_cp (fun w Z k => sh_aload_n dc_Hall_syncAt_28 rfl rfl k) ?_
  exact sh_ce (fun w => sh_areturn (v := (some (A (20 + s)))) dc_Hall_syncAt_29 rfl (by decide) (by decide))
theorem ct_Hall_syncAt_x_1 {A : Nat → Nat} {K : sh_II} {L : sh_DD} {x : Int32} (c0_4 : x < 0) : sh_cM A md_Hall_syncAt [.ref (A 0), .int x] K L (.inr 1) K L := by
  refine sh_cp (fun w Z k => sh_iload_n dc_Hall_syncAt_0 rfl rfl k) ?_
  refine sh_cp (fun w Z k => sh_iconst (v := 0) dc_Hall_syncAt_1 (by decide) k) ?_
  refine sh_cp (fun w Z k => sh_bipush (v := 7) dc_Hall_syncAt_2 (by decide) k) ?_
  exact sh_ccallT (fun w hw => sh_stat (As := [.int x, .int 0, .int 7]) dc_Hall_syncAt_4 lm_Hall_checkNumber ln_Hall_39 wd_191 wd_49 rfl rfl (Nat.le_of_ble_eq_true rfl)) (ct_Hall_checkNumber_1 (x := x) (lo := 0) (hi := 7) c0_4) ⟨(Nat.le_of_ble_eq_true rfl), (Nat.le_of_ble_eq_true rfl), (Nat.le_of_ble_eq_true rfl), (Nat.le_of_ble_eq_true rfl)⟩ rfl
theorem ct_Hall_syncAt_x_2 {A : Nat → Nat} {K : sh_II} {L : sh_DD} {x : Int32} (c0_4 : ¬ x < 0) (c1_4 : ¬ x ≤ 7) : sh_cM A md_Hall_syncAt [.ref (A 0), .int x] K L (.inr 1) K L := by
  refine sh_cp (fun w Z k => sh_iload_n dc_Hall_syncAt_0 rfl rfl k) ?_
  refine sh_cp (fun w Z k => sh_iconst (v := 0) dc_Hall_syncAt_1 (by decide) k) ?_
  refine sh_cp (fun w Z k => sh_bipush (v := 7) dc_Hall_syncAt_2 (by decide) k) ?_
  exact sh_ccallT (fun w hw => sh_stat (As := [.int x, .int 0, .int 7]) dc_Hall_syncAt_4 lm_Hall_checkNumber ln_Hall_39 wd_191 wd_49 rfl rfl (Nat.le_of_ble_eq_true rfl)) (ct_Hall_checkNumber_3 (x := x) (lo := 0) (hi := 7) c0_4 c1_4) ⟨(Nat.le_of_ble_eq_true rfl), (Nat.le_of_ble_eq_true rfl), (Nat.le_of_ble_eq_true rfl), (Nat.le_of_ble_eq_true rfl)⟩ rfl
theorem ct_Hall_lockAt_1 {A : Nat → Nat} {K : sh_II} {L : sh_DD} {s : Nat} (hs : s < 8) (c0_2 : cw_cl (K 12 s) = 0) : sh_cM A md_Hall_lockAt [.ref (A 0), .int (nI s)] K L (.inr 2) K L := by
  refine sh_cp (fun w Z k => sh_aload_n dc_Hall_lockAt_0 rfl rfl k) ?_
  refine sh_cp (fun w Z k => sh_iload_n dc_Hall_lockAt_1 rfl rfl k) ?_
  exact sh_ccallT (fun w hw => sh_virt (As := [.int (nI s)]) dc_Hall_lockAt_2 lm_Hall_syncAt ln_Hall_73 wd_272 wd_2 rfl rfl (Nat.le_of_ble_eq_true rfl) (hw _ _ cw_o0) rfl) (ct_Hall_syncAt_1 (s := s) (by omega) c0_2) ⟨(Nat.le_of_ble_eq_true rfl), (Nat.le_of_ble_eq_true rfl), (Nat.le_of_ble_eq_true rfl), (Nat.le_of_ble_eq_true rfl)⟩ rfl
theorem ct_Hall_lockAt_2 {A : Nat → Nat} {K : sh_II} {L : sh_DD} {s : Nat} (hs : s < 8) (c0_2 : ¬ cw_cl (K 12 s) = 0) (hk_s : cw_cl (K 12 s) = 4) : sh_cM A md_Hall_lockAt [.ref (A 0), .int (nI s)] K L (.inl (some (.ref (A (20 + s))))) K L := by
  refine sh_cp (fun w Z k => sh_aload_n dc_Hall_lockAt_0 rfl rfl k) ?_
  refine sh_cp (fun w Z k => sh_iload_n dc_Hall_lockAt_1 rfl rfl k) ?_
  refine sh_ccall (fun w hw => sh_virt (As := [.int (nI s)]) dc_Hall_lockAt_2 lm_Hall_syncAt ln_Hall_73 wd_272 wd_2 rfl rfl (Nat.le_of_ble_eq_true rfl) (hw _ _ cw_o0) rfl) (ct_Hall_syncAt_2 (s := s) (by omega) c0_2) ⟨(Nat.le_of_ble_eq_true rfl), (Nat.le_of_ble_eq_true rfl), (Nat.le_of_ble_eq_true rfl), (Nat.le_of_ble_eq_true rfl)⟩ ?_
  show sh_cW _ _ (_, _, [.ref (A (20 + s))]) K L _ _ _ _ _
  refine sh_cp (fun w Z k => sh_astore_n dc_Hall_lockAt_5 rfl (by decide) k) ?_
  refine sh_cp (fun w Z k => sh_aload_n dc_Hall_lockAt_6 rfl rfl k) ?_
  refine sh_cinstY (20 + s) dc_Hall_lockAt_7 wd_290 (cw_ol (by omega) hk_s) rfl (Or.inl rfl) ?_
  refine sh_cp (fun w Z k => sh_if_eq (tgt := 20) dc_Hall_lockAt_10 (by decide) (fun z => absurd z (by decide)) (fun _ => k)) ?_
  refine sh_cp (fun w Z k => sh_aload_n dc_Hall_lockAt_13 rfl rfl k) ?_
  refine sh_ccastY (20 + s) dc_Hall_lockAt_14 wd_290 (cw_ol (by omega) hk_s) rfl (Or.inl rfl) ?_
  refine sh_cp (fun w Z k => sh_astore_n dc_Hall_lockAt_17 rfl (by decide) k) ?_
  refine sh_cp (fun w Z k => sh_aload_n dc_Hall_lockAt_18 rfl rfl k) ?_
  exact sh_ce (fun w => sh_areturn (v := (some (A (20 + s)))) dc_Hall_lockAt_19 rfl (by decide) (by decide))
theorem ct_Hall_lockAt_3 {A : Nat → Nat} {K : sh_II} {L : sh_DD} {s : Nat} (hs : s < 8) (c0_2 : ¬ cw_cl (K 12 s) = 0) (hk_s : cw_cl (K 12 s) = 5) : sh_cM A md_Hall_lockAt [.ref (A 0), .int (nI s)] K L (.inr 2) K L := by
  refine sh_cp (fun w Z k => sh_aload_n dc_Hall_lockAt_0 rfl rfl k) ?_
  refine sh_cp (fun w Z k => sh_iload_n dc_Hall_lockAt_1 rfl rfl k) ?_
  refine sh_ccall (fun w hw => sh_virt (As := [.int (nI s)]) dc_Hall_lockAt_2 lm_Hall_syncAt ln_Hall_73 wd_272 wd_2 rfl rfl (Nat.le_of_ble_eq_true rfl) (hw _ _ cw_o0) rfl) (ct_Hall_syncAt_2 (s := s) (by omega) c0_2) ⟨(Nat.le_of_ble_eq_true rfl), (Nat.le_of_ble_eq_true rfl), (Nat.le_of_ble_eq_true rfl), (Nat.le_of_ble_eq_true rfl)⟩ ?_
  show sh_cW _ _ (_, _, [.ref (A (20 + s))]) K L _ _ _ _ _
  refine sh_cp (fun w Z k => sh_astore_n dc_Hall_lockAt_5 rfl (by decide) k) ?_
  refine sh_cp (fun w Z k => sh_aload_n dc_Hall_lockAt_6 rfl rfl k) ?_
  refine sh_cinstNo (20 + s) dc_Hall_lockAt_7 wd_290 (cw_oe (by omega) hk_s) rfl wn_50 ?_
  refine sh_cp (fun w Z k => sh_if_eq (tgt := 20) dc_Hall_lockAt_10 (by decide) (fun _ => k) (fun z => absurd (by decide) z)) ?_
  exact sh_ct (fun w => sh_thr (lx := 2) (tx := "no lock is there") dc_Hall_lockAt_20 dc_Hall_lockAt_23 (Or.inl ⟨dc_Hall_lockAt_24, rfl⟩) dc_Hall_lockAt_26 dc_Hall_lockAt_29 lx_Hall_236_240 (by decide +kernel) rfl (by decide) (by decide) (by decide) (by decide))
theorem ct_Hall_lockAt_4 {A : Nat → Nat} {K : sh_II} {L : sh_DD} {s : Nat} (hs : s < 8) (c0_2 : ¬ cw_cl (K 12 s) = 0) (hk_s : cw_cl (K 12 s) = 6) : sh_cM A md_Hall_lockAt [.ref (A 0), .int (nI s)] K L (.inr 2) K L := by
  refine sh_cp (fun w Z k => sh_aload_n dc_Hall_lockAt_0 rfl rfl k) ?_
  refine sh_cp (fun w Z k => sh_iload_n dc_Hall_lockAt_1 rfl rfl k) ?_
  refine sh_ccall (fun w hw => sh_virt (As := [.int (nI s)]) dc_Hall_lockAt_2 lm_Hall_syncAt ln_Hall_73 wd_272 wd_2 rfl rfl (Nat.le_of_ble_eq_true rfl) (hw _ _ cw_o0) rfl) (ct_Hall_syncAt_2 (s := s) (by omega) c0_2) ⟨(Nat.le_of_ble_eq_true rfl), (Nat.le_of_ble_eq_true rfl), (Nat.le_of_ble_eq_true rfl), (Nat.le_of_ble_eq_true rfl)⟩ ?_
  show sh_cW _ _ (_, _, [.ref (A (20 + s))]) K L _ _ _ _ _
  refine sh_cp (fun w Z k => sh_astore_n dc_Hall_lockAt_5 rfl (by decide) k) ?_
  refine sh_cp (fun w Z k => sh_aload_n dc_Hall_lockAt_6 rfl rfl k) ?_
  refine sh_cinstNo (20 + s) dc_Hall_lockAt_7 wd_290 (cw_oa (by omega) hk_s) rfl wn_51 ?_
  refine sh_cp (fun w Z k => sh_if_eq (tgt := 20) dc_Hall_lockAt_10 (by decide) (fun _ => k) (fun z => absurd (by decide) z)) ?_
  exact sh_ct (fun w => sh_thr (lx := 2) (tx := "no lock is there") dc_Hall_lockAt_20 dc_Hall_lockAt_23 (Or.inl ⟨dc_Hall_lockAt_24, rfl⟩) dc_Hall_lockAt_26 dc_Hall_lockAt_29 lx_Hall_236_240 (by decide +kernel) rfl (by decide) (by decide) (by decide) (by decide))
theorem ct_Hall_lockAt_5 {A : Nat → Nat} {K : sh_II} {L : sh_DD} {s : Nat} (hs : s < 8) (c0_2 : ¬ cw_cl (K 12 s) = 0) (hk_s : cw_cl (K 12 s) = 7) : sh_cM A md_Hall_lockAt [.ref (A 0), .int (nI s)] K L (.inr 2) K L := by
  refine sh_cp (fun w Z k => sh_aload_n dc_Hall_lockAt_0 rfl rfl k) ?_
  refine sh_cp (fun w Z k => sh_iload_n dc_Hall_lockAt_1 rfl rfl k) ?_
  refine sh_ccall (fun w hw => sh_virt (As := [.int (nI s)]) dc_Hall_lockAt_2 lm_Hall_syncAt ln_Hall_73 wd_272 wd_2 rfl rfl (Nat.le_of_ble_eq_true rfl) (hw _ _ cw_o0) rfl) (ct_Hall_syncAt_2 (s := s) (by omega) c0_2) ⟨(Nat.le_of_ble_eq_true rfl), (Nat.le_of_ble_eq_true rfl), (Nat.le_of_ble_eq_true rfl), (Nat.le_of_ble_eq_true rfl)⟩ ?_
  show sh_cW _ _ (_, _, [.ref (A (20 + s))]) K L _ _ _ _ _
  refine sh_cp (fun w Z k => sh_astore_n dc_Hall_lockAt_5 rfl (by decide) k) ?_
  refine sh_cp (fun w Z k => sh_aload_n dc_Hall_lockAt_6 rfl rfl k) ?_
  refine sh_cinstNo (20 + s) dc_Hall_lockAt_7 wd_290 (cw_oh (by omega) hk_s) rfl wn_52 ?_
  refine sh_cp (fun w Z k => sh_if_eq (tgt := 20) dc_Hall_lockAt_10 (by decide) (fun _ => k) (fun z => absurd (by decide) z)) ?_
  exact sh_ct (fun w => sh_thr (lx := 2) (tx := "no lock is there") dc_Hall_lockAt_20 dc_Hall_lockAt_23 (Or.inl ⟨dc_Hall_lockAt_24, rfl⟩) dc_Hall_lockAt_26 dc_Hall_lockAt_29 lx_Hall_236_240 (by decide +kernel) rfl (by decide) (by decide) (by decide) (by decide))
theorem ct_Hall_lockAt_6 {A : Nat → Nat} {K : sh_II} {L : sh_DD} {s : Nat} (hs : s < 8) (c0_2 : ¬ cw_cl (K 12 s) = 0) (hk_s : cw_cl (K 12 s) = 8) : sh_cM A md_Hall_lockAt [.ref (A 0), .int (nI s)] K L (.inr 2) K L := by
  refine sh_cp (fun w Z k => sh_aload_n dc_Hall_lockAt_0 rfl rfl k) ?_
  refine sh_cp (fun w Z k => sh_iload_n dc_Hall_lockAt_1 rfl rfl k) ?_
  refine sh_ccall (fun w hw => sh_virt (As := [.int (nI s)]) dc_Hall_lockAt_2 lm_Hall_syncAt ln_Hall_73 wd_272 wd_2 rfl rfl (Nat.le_of_ble_eq_true rfl) (hw _ _ cw_o0) rfl) (ct_Hall_syncAt_2 (s := s) (by omega) c0_2) ⟨(Nat.le_of_ble_eq_true rfl), (Nat.le_of_ble_eq_true rfl), (Nat.le_of_ble_eq_true rfl), (Nat.le_of_ble_eq_true rfl)⟩ ?_
  show sh_cW _ _ (_, _, [.ref (A (20 + s))]) K L _ _ _ _ _
  refine sh_cp (fun w Z k => sh_astore_n dc_Hall_lockAt_5 rfl (by decide) k) ?_
  refine sh_cp (fun w Z k => sh_aload_n dc_Hall_lockAt_6 rfl rfl k) ?_
  refine sh_cinstNo (20 + s) dc_Hall_lockAt_7 wd_290 (cw_oc (by omega) hk_s) rfl wn_53 ?_
  refine sh_cp (fun w Z k => sh_if_eq (tgt := 20) dc_Hall_lockAt_10 (by decide) (fun _ => k) (fun z => absurd (by decide) z)) ?_
  exact sh_ct (fun w => sh_thr (lx := 2) (tx := "no lock is there") dc_Hall_lockAt_20 dc_Hall_lockAt_23 (Or.inl ⟨dc_Hall_lockAt_24, rfl⟩) dc_Hall_lockAt_26 dc_Hall_lockAt_29 lx_Hall_236_240 (by decide +kernel) rfl (by decide) (by decide) (by decide) (by decide))
theorem ct_Hall_lockAt_x_1 {A : Nat → Nat} {K : sh_II} {L : sh_DD} {x : Int32} (c0_2 : x < 0) : sh_cM A md_Hall_lockAt [.ref (A 0), .int x] K L (.inr 1) K L := by
  refine sh_cp (fun w Z k => sh_aload_n dc_Hall_lockAt_0 rfl rfl k) ?_
  refine sh_cp (fun w Z k => sh_iload_n dc_Hall_lockAt_1 rfl rfl k) ?_
  exact sh_ccallT (fun w hw => sh_virt (As := [.int x]) dc_Hall_lockAt_2 lm_Hall_syncAt ln_Hall_73 wd_272 wd_2 rfl rfl (Nat.le_of_ble_eq_true rfl) (hw _ _ cw_o0) rfl) (ct_Hall_syncAt_x_1 (x := x) c0_2) ⟨(Nat.le_of_ble_eq_true rfl), (Nat.le_of_ble_eq_true rfl), (Nat.le_of_ble_eq_true rfl), (Nat.le_of_ble_eq_true rfl)⟩ rfl
theorem ct_Hall_lockAt_x_2 {A : Nat → Nat} {K : sh_II} {L : sh_DD} {x : Int32} (c0_2 : ¬ x < 0) (c1_2 : ¬ x ≤ 7) : sh_cM A md_Hall_lockAt [.ref (A 0), .int x] K L (.inr 1) K L := by
  refine sh_cp (fun w Z k => sh_aload_n dc_Hall_lockAt_0 rfl rfl k) ?_
  refine sh_cp (fun w Z k => sh_iload_n dc_Hall_lockAt_1 rfl rfl k) ?_
  exact sh_ccallT (fun w hw => sh_virt (As := [.int x]) dc_Hall_lockAt_2 lm_Hall_syncAt ln_Hall_73 wd_272 wd_2 rfl rfl (Nat.le_of_ble_eq_true rfl) (hw _ _ cw_o0) rfl) (ct_Hall_syncAt_x_2 (x := x) c0_2 c1_2) ⟨(Nat.le_of_ble_eq_true rfl), (Nat.le_of_ble_eq_true rfl), (Nat.le_of_ble_eq_true rfl), (Nat.le_of_ble_eq_true rfl)⟩ rfl
theorem ct_Hall_conditionFor_Lock_1 {A : Nat → Nat} {K : sh_II} {L : sh_DD} {t : Nat} {s : Nat} (ht : t < 6) (hs : s < 8) (hk_s : cw_cl (K 12 s) = 4) (c0_7 : (K 5 t) = -1) : sh_cM A md_Hall_conditionFor [.ref (A 0), .ref (A (10 + t)), .int (nI s)] K L (.inr 4) K L := by
  refine sh_cp (fun w Z k => sh_aload_n dc_Hall_conditionFor_0 rfl rfl k) ?_
  refine sh_cp (fun w Z k => sh_iload_n dc_Hall_conditionFor_1 rfl rfl k) ?_
  refine sh_ccall (fun w hw => sh_virt (As := [.int (nI s)]) dc_Hall_conditionFor_2 lm_Hall_syncAt ln_Hall_73 wd_272 wd_2 rfl rfl (Nat.le_of_ble_eq_true rfl) (hw _ _ cw_o0) rfl) (ct_Hall_syncAt_2 (s := s) (by omega) (cw_nz hk_s (by decide))) ⟨(Nat.le_of_ble_eq_true rfl), (Nat.le_of_ble_eq_true rfl), (Nat.le_of_ble_eq_true rfl), (Nat.le_of_ble_eq_true rfl)⟩ ?_
  show sh_cW _ _ (_, _, [.ref (A (20 + s))]) K L _ _ _ _ _
  refine sh_cp (fun w Z k => sh_astore_n dc_Hall_conditionFor_5 rfl (by decide) k) ?_
  refine sh_cp (fun w Z k => sh_aload_n dc_Hall_conditionFor_6 rfl rfl k) ?_
  refine sh_ccall (fun w hw => sh_stat (As := [.ref (A (10 + t))]) dc_Hall_conditionFor_7 lm_Hall_checkRunning ln_Hall_77 wd_463 wd_49 rfl rfl (Nat.le_of_ble_eq_true rfl)) (ct_Hall_checkRunning_1 (t := t) (by omega) c0_7) ⟨(Nat.le_of_ble_eq_true rfl), (Nat.le_of_ble_eq_true rfl), (Nat.le_of_ble_eq_true rfl), (Nat.le_of_ble_eq_true rfl)⟩ ?_
  show sh_cW _ _ (_, _, []) K L _ _ _ _ _
  refine sh_cp (fun w Z k => sh_aload_n dc_Hall_conditionFor_10 rfl rfl k) ?_
  refine sh_cinstNo (20 + s) dc_Hall_conditionFor_11 wd_424 (cw_ol (by omega) hk_s) rfl wn_88 ?_
  refine sh_cp (fun w Z k => sh_if_eq (tgt := 35) dc_Hall_conditionFor_14 (by decide) (fun _ => k) (fun z => absurd (by decide) z)) ?_
  exact sh_ct (fun w => sh_thr (lx := 2) (tx := "the sync is no condition") dc_Hall_conditionFor_35 dc_Hall_conditionFor_38 (Or.inl ⟨dc_Hall_conditionFor_39, rfl⟩) dc_Hall_conditionFor_41 dc_Hall_conditionFor_44 lx_Hall_243_247 (by decide +kernel) rfl (by decide) (by decide) (by decide) (by decide))
theorem ct_Hall_conditionFor_Lock_2 {A : Nat → Nat} {K : sh_II} {L : sh_DD} {t : Nat} {s : Nat} {u5_7 : Nat} (ht : t < 6) (hs : s < 8) (hk_s : cw_cl (K 12 s) = 4) (hu5_7 : u5_7 < 8) (c1_7 : (K 5 t) = nI u5_7) : sh_cM A md_Hall_conditionFor [.ref (A 0), .ref (A (10 + t)), .int (nI s)] K L (.inr 3) K L := by
  refine sh_cp (fun w Z k => sh_aload_n dc_Hall_conditionFor_0 rfl rfl k) ?_
  refine sh_cp (fun w Z k => sh_iload_n dc_Hall_conditionFor_1 rfl rfl k) ?_
  refine sh_ccall (fun w hw => sh_virt (As := [.int (nI s)]) dc_Hall_conditionFor_2 lm_Hall_syncAt ln_Hall_73 wd_272 wd_2 rfl rfl (Nat.le_of_ble_eq_true rfl) (hw _ _ cw_o0) rfl) (ct_Hall_syncAt_2 (s := s) (by omega) (cw_nz hk_s (by decide))) ⟨(Nat.le_of_ble_eq_true rfl), (Nat.le_of_ble_eq_true rfl), (Nat.le_of_ble_eq_true rfl), (Nat.le_of_ble_eq_true rfl)⟩ ?_
  show sh_cW _ _ (_, _, [.ref (A (20 + s))]) K L _ _ _ _ _
  refine sh_cp (fun w Z k => sh_astore_n dc_Hall_conditionFor_5 rfl (by decide) k) ?_
  refine sh_cp (fun w Z k => sh_aload_n dc_Hall_conditionFor_6 rfl rfl k) ?_
  exact sh_ccallT (fun w hw => sh_stat (As := [.ref (A (10 + t))]) dc_Hall_conditionFor_7 lm_Hall_checkRunning ln_Hall_77 wd_463 wd_49 rfl rfl (Nat.le_of_ble_eq_true rfl)) (ct_Hall_checkRunning_2 (t := t) (u5_1 := u5_7) (by omega) (by omega) c1_7) ⟨(Nat.le_of_ble_eq_true rfl), (Nat.le_of_ble_eq_true rfl), (Nat.le_of_ble_eq_true rfl), (Nat.le_of_ble_eq_true rfl)⟩ rfl
theorem ct_Hall_conditionFor_Semaphore_1 {A : Nat → Nat} {K : sh_II} {L : sh_DD} {t : Nat} {s : Nat} (ht : t < 6) (hs : s < 8) (hk_s : cw_cl (K 12 s) = 5) (c0_7 : (K 5 t) = -1) : sh_cM A md_Hall_conditionFor [.ref (A 0), .ref (A (10 + t)), .int (nI s)] K L (.inr 4) K L := by
  refine sh_cp (fun w Z k => sh_aload_n dc_Hall_conditionFor_0 rfl rfl k) ?_
  refine sh_cp (fun w Z k => sh_iload_n dc_Hall_conditionFor_1 rfl rfl k) ?_
  refine sh_ccall (fun w hw => sh_virt (As := [.int (nI s)]) dc_Hall_conditionFor_2 lm_Hall_syncAt ln_Hall_73 wd_272 wd_2 rfl rfl (Nat.le_of_ble_eq_true rfl) (hw _ _ cw_o0) rfl) (ct_Hall_syncAt_2 (s := s) (by omega) (cw_nz hk_s (by decide))) ⟨(Nat.le_of_ble_eq_true rfl), (Nat.le_of_ble_eq_true rfl), (Nat.le_of_ble_eq_true rfl), (Nat.le_of_ble_eq_true rfl)⟩ ?_
  show sh_cW _ _ (_, _, [.ref (A (20 + s))]) K L _ _ _ _ _
  refine sh_cp (fun w Z k => sh_astore_n dc_Hall_conditionFor_5 rfl (by decide) k) ?_
  refine sh_cp (fun w Z k => sh_aload_n dc_Hall_conditionFor_6 rfl rfl k) ?_
  refine sh_ccall (fun w hw => sh_stat (As := [.ref (A (10 + t))]) dc_Hall_conditionFor_7 lm_Hall_checkRunning ln_Hall_77 wd_463 wd_49 rfl rfl (Nat.le_of_ble_eq_true rfl)) (ct_Hall_checkRunning_1 (t := t) (by omega) c0_7) ⟨(Nat.le_of_ble_eq_true rfl), (Nat.le_of_ble_eq_true rfl), (Nat.le_of_ble_eq_true rfl), (Nat.le_of_ble_eq_true rfl)⟩ ?_
  show sh_cW _ _ (_, _, []) K L _ _ _ _ _
  refine sh_cp (fun w Z k => sh_aload_n dc_Hall_conditionFor_10 rfl rfl k) ?_
  refine sh_cinstNo (20 + s) dc_Hall_conditionFor_11 wd_424 (cw_oe (by omega) hk_s) rfl wn_90 ?_
  refine sh_cp (fun w Z k => sh_if_eq (tgt := 35) dc_Hall_conditionFor_14 (by decide) (fun _ => k) (fun z => absurd (by decide) z)) ?_
  exact sh_ct (fun w => sh_thr (lx := 2) (tx := "the sync is no condition") dc_Hall_conditionFor_35 dc_Hall_conditionFor_38 (Or.inl ⟨dc_Hall_conditionFor_39, rfl⟩) dc_Hall_conditionFor_41 dc_Hall_conditionFor_44 lx_Hall_243_247 (by decide +kernel) rfl (by decide) (by decide) (by decide) (by decide))
theorem ct_Hall_conditionFor_Semaphore_2 {A : Nat → Nat} {K : sh_II} {L : sh_DD} {t : Nat} {s : Nat} {u5_7 : Nat} (ht : t < 6) (hs : s < 8) (hk_s : cw_cl (K 12 s) = 5) (hu5_7 : u5_7 < 8) (c1_7 : (K 5 t) = nI u5_7) : sh_cM A md_Hall_conditionFor [.ref (A 0), .ref (A (10 + t)), .int (nI s)] K L (.inr 3) K L := by
  refine sh_cp (fun w Z k => sh_aload_n dc_Hall_conditionFor_0 rfl rfl k) ?_
  refine sh_cp (fun w Z k => sh_iload_n dc_Hall_conditionFor_1 rfl rfl k) ?_
  refine sh_ccall (fun w hw => sh_virt (As := [.int (nI s)]) dc_Hall_conditionFor_2 lm_Hall_syncAt ln_Hall_73 wd_272 wd_2 rfl rfl (Nat.le_of_ble_eq_true rfl) (hw _ _ cw_o0) rfl) (ct_Hall_syncAt_2 (s := s) (by omega) (cw_nz hk_s (by decide))) ⟨(Nat.le_of_ble_eq_true rfl), (Nat.le_of_ble_eq_true rfl), (Nat.le_of_ble_eq_true rfl), (Nat.le_of_ble_eq_true rfl)⟩ ?_
  show sh_cW _ _ (_, _, [.ref (A (20 + s))]) K L _ _ _ _ _
  refine sh_cp (fun w Z k => sh_astore_n dc_Hall_conditionFor_5 rfl (by decide) k) ?_
  refine sh_cp (fun w Z k => sh_aload_n dc_Hall_conditionFor_6 rfl rfl k) ?_
  exact sh_ccallT (fun w hw => sh_stat (As := [.ref (A (10 + t))]) dc_Hall_conditionFor_7 lm_Hall_checkRunning ln_Hall_77 wd_463 wd_49 rfl rfl (Nat.le_of_ble_eq_true rfl)) (ct_Hall_checkRunning_2 (t := t) (u5_1 := u5_7) (by omega) (by omega) c1_7) ⟨(Nat.le_of_ble_eq_true rfl), (Nat.le_of_ble_eq_true rfl), (Nat.le_of_ble_eq_true rfl), (Nat.le_of_ble_eq_true rfl)⟩ rfl
theorem ct_Hall_conditionFor_Latch_1 {A : Nat → Nat} {K : sh_II} {L : sh_DD} {t : Nat} {s : Nat} (ht : t < 6) (hs : s < 8) (hk_s : cw_cl (K 12 s) = 6) (c0_7 : (K 5 t) = -1) : sh_cM A md_Hall_conditionFor [.ref (A 0), .ref (A (10 + t)), .int (nI s)] K L (.inr 4) K L := by
  refine sh_cp (fun w Z k => sh_aload_n dc_Hall_conditionFor_0 rfl rfl k) ?_
  refine sh_cp (fun w Z k => sh_iload_n dc_Hall_conditionFor_1 rfl rfl k) ?_
  refine sh_ccall (fun w hw => sh_virt (As := [.int (nI s)]) dc_Hall_conditionFor_2 lm_Hall_syncAt ln_Hall_73 wd_272 wd_2 rfl rfl (Nat.le_of_ble_eq_true rfl) (hw _ _ cw_o0) rfl) (ct_Hall_syncAt_2 (s := s) (by omega) (cw_nz hk_s (by decide))) ⟨(Nat.le_of_ble_eq_true rfl), (Nat.le_of_ble_eq_true rfl), (Nat.le_of_ble_eq_true rfl), (Nat.le_of_ble_eq_true rfl)⟩ ?_
  show sh_cW _ _ (_, _, [.ref (A (20 + s))]) K L _ _ _ _ _
  refine sh_cp (fun w Z k => sh_astore_n dc_Hall_conditionFor_5 rfl (by decide) k) ?_
  refine sh_cp (fun w Z k => sh_aload_n dc_Hall_conditionFor_6 rfl rfl k) ?_
  refine sh_ccall (fun w hw => sh_stat (As := [.ref (A (10 + t))]) dc_Hall_conditionFor_7 lm_Hall_checkRunning ln_Hall_77 wd_463 wd_49 rfl rfl (Nat.le_of_ble_eq_true rfl)) (ct_Hall_checkRunning_1 (t := t) (by omega) c0_7) ⟨(Nat.le_of_ble_eq_true rfl), (Nat.le_of_ble_eq_true rfl), (Nat.le_of_ble_eq_true rfl), (Nat.le_of_ble_eq_true rfl)⟩ ?_
  show sh_cW _ _ (_, _, []) K L _ _ _ _ _
  refine sh_cp (fun w Z k => sh_aload_n dc_Hall_conditionFor_10 rfl rfl k) ?_
  refine sh_cinstNo (20 + s) dc_Hall_conditionFor_11 wd_424 (cw_oa (by omega) hk_s) rfl wn_91 ?_
  refine sh_cp (fun w Z k => sh_if_eq (tgt := 35) dc_Hall_conditionFor_14 (by decide) (fun _ => k) (fun z => absurd (by decide) z)) ?_
  exact sh_ct (fun w => sh_thr (lx := 2) (tx := "the sync is no condition") dc_Hall_conditionFor_35 dc_Hall_conditionFor_38 (Or.inl ⟨dc_Hall_conditionFor_39, rfl⟩) dc_Hall_conditionFor_41 dc_Hall_conditionFor_44 lx_Hall_243_247 (by decide +kernel) rfl (by decide) (by decide) (by decide) (by decide))
theorem ct_Hall_conditionFor_Latch_2 {A : Nat → Nat} {K : sh_II} {L : sh_DD} {t : Nat} {s : Nat} {u5_7 : Nat} (ht : t < 6) (hs : s < 8) (hk_s : cw_cl (K 12 s) = 6) (hu5_7 : u5_7 < 8) (c1_7 : (K 5 t) = nI u5_7) : sh_cM A md_Hall_conditionFor [.ref (A 0), .ref (A (10 + t)), .int (nI s)] K L (.inr 3) K L := by
  refine sh_cp (fun w Z k => sh_aload_n dc_Hall_conditionFor_0 rfl rfl k) ?_
  refine sh_cp (fun w Z k => sh_iload_n dc_Hall_conditionFor_1 rfl rfl k) ?_
  refine sh_ccall (fun w hw => sh_virt (As := [.int (nI s)]) dc_Hall_conditionFor_2 lm_Hall_syncAt ln_Hall_73 wd_272 wd_2 rfl rfl (Nat.le_of_ble_eq_true rfl) (hw _ _ cw_o0) rfl) (ct_Hall_syncAt_2 (s := s) (by omega) (cw_nz hk_s (by decide))) ⟨(Nat.le_of_ble_eq_true rfl), (Nat.le_of_ble_eq_true rfl), (Nat.le_of_ble_eq_true rfl), (Nat.le_of_ble_eq_true rfl)⟩ ?_
  show sh_cW _ _ (_, _, [.ref (A (20 + s))]) K L _ _ _ _ _
  refine sh_cp (fun w Z k => sh_astore_n dc_Hall_conditionFor_5 rfl (by decide) k) ?_
  refine sh_cp (fun w Z k => sh_aload_n dc_Hall_conditionFor_6 rfl rfl k) ?_
  exact sh_ccallT (fun w hw => sh_stat (As := [.ref (A (10 + t))]) dc_Hall_conditionFor_7 lm_Hall_checkRunning ln_Hall_77 wd_463 wd_49 rfl rfl (Nat.le_of_ble_eq_true rfl)) (ct_Hall_checkRunning_2 (t := t) (u5_1 := u5_7) (by omega) (by omega) c1_7) ⟨(Nat.le_of_ble_eq_true rfl), (Nat.le_of_ble_eq_true rfl), (Nat.le_of_ble_eq_true rfl), (Nat.le_of_ble_eq_true rfl)⟩ rfl
theorem ct_Hall_conditionFor_Shared_1 {A : Nat → Nat} {K : sh_II} {L : sh_DD} {t : Nat} {s : Nat} (ht : t < 6) (hs : s < 8) (hk_s : cw_cl (K 12 s) = 7) (c0_7 : (K 5 t) = -1) : sh_cM A md_Hall_conditionFor [.ref (A 0), .ref (A (10 + t)), .int (nI s)] K L (.inr 4) K L := by
  refine sh_cp (fun w Z k => sh_aload_n dc_Hall_conditionFor_0 rfl rfl k) ?_
  refine sh_cp (fun w Z k => sh_iload_n dc_Hall_conditionFor_1 rfl rfl k) ?_
  refine sh_ccall (fun w hw => sh_virt (As := [.int (nI s)]) dc_Hall_conditionFor_2 lm_Hall_syncAt ln_Hall_73 wd_272 wd_2 rfl rfl (Nat.le_of_ble_eq_true rfl) (hw _ _ cw_o0) rfl) (ct_Hall_syncAt_2 (s := s) (by omega) (cw_nz hk_s (by decide))) ⟨(Nat.le_of_ble_eq_true rfl), (Nat.le_of_ble_eq_true rfl), (Nat.le_of_ble_eq_true rfl), (Nat.le_of_ble_eq_true rfl)⟩ ?_
  show sh_cW _ _ (_, _, [.ref (A (20 + s))]) K L _ _ _ _ _
  refine sh_cp (fun w Z k => sh_astore_n dc_Hall_conditionFor_5 rfl (by decide) k) ?_
  refine sh_cp (fun w Z k => sh_aload_n dc_Hall_conditionFor_6 rfl rfl k) ?_
  refine sh_ccall (fun w hw => sh_stat (As := [.ref (A (10 + t))]) dc_Hall_conditionFor_7 lm_Hall_checkRunning ln_Hall_77 wd_463 wd_49 rfl rfl (Nat.le_of_ble_eq_true rfl)) (ct_Hall_checkRunning_1 (t := t) (by omega) c0_7) ⟨(Nat.le_of_ble_eq_true rfl), (Nat.le_of_ble_eq_true rfl), (Nat.le_of_ble_eq_true rfl), (Nat.le_of_ble_eq_true rfl)⟩ ?_
  show sh_cW _ _ (_, _, []) K L _ _ _ _ _
  refine sh_cp (fun w Z k => sh_aload_n dc_Hall_conditionFor_10 rfl rfl k) ?_
  refine sh_cinstNo (20 + s) dc_Hall_conditionFor_11 wd_424 (cw_oh (by omega) hk_s) rfl wn_92 ?_
  refine sh_cp (fun w Z k => sh_if_eq (tgt := 35) dc_Hall_conditionFor_14 (by decide) (fun _ => k) (fun z => absurd (by decide) z)) ?_
  exact sh_ct (fun w => sh_thr (lx := 2) (tx := "the sync is no condition") dc_Hall_conditionFor_35 dc_Hall_conditionFor_38 (Or.inl ⟨dc_Hall_conditionFor_39, rfl⟩) dc_Hall_conditionFor_41 dc_Hall_conditionFor_44 lx_Hall_243_247 (by decide +kernel) rfl (by decide) (by decide) (by decide) (by decide))
theorem ct_Hall_conditionFor_Shared_2 {A : Nat → Nat} {K : sh_II} {L : sh_DD} {t : Nat} {s : Nat} {u5_7 : Nat} (ht : t < 6) (hs : s < 8) (hk_s : cw_cl (K 12 s) = 7) (hu5_7 : u5_7 < 8) (c1_7 : (K 5 t) = nI u5_7) : sh_cM A md_Hall_conditionFor [.ref (A 0), .ref (A (10 + t)), .int (nI s)] K L (.inr 3) K L := by
  refine sh_cp (fun w Z k => sh_aload_n dc_Hall_conditionFor_0 rfl rfl k) ?_
  refine sh_cp (fun w Z k => sh_iload_n dc_Hall_conditionFor_1 rfl rfl k) ?_
  refine sh_ccall (fun w hw => sh_virt (As := [.int (nI s)]) dc_Hall_conditionFor_2 lm_Hall_syncAt ln_Hall_73 wd_272 wd_2 rfl rfl (Nat.le_of_ble_eq_true rfl) (hw _ _ cw_o0) rfl) (ct_Hall_syncAt_2 (s := s) (by omega) (cw_nz hk_s (by decide))) ⟨(Nat.le_of_ble_eq_true rfl), (Nat.le_of_ble_eq_true rfl), (Nat.le_of_ble_eq_true rfl), (Nat.le_of_ble_eq_true rfl)⟩ ?_
  show sh_cW _ _ (_, _, [.ref (A (20 + s))]) K L _ _ _ _ _
  refine sh_cp (fun w Z k => sh_astore_n dc_Hall_conditionFor_5 rfl (by decide) k) ?_
  refine sh_cp (fun w Z k => sh_aload_n dc_Hall_conditionFor_6 rfl rfl k) ?_
  exact sh_ccallT (fun w hw => sh_stat (As := [.ref (A (10 + t))]) dc_Hall_conditionFor_7 lm_Hall_checkRunning ln_Hall_77 wd_463 wd_49 rfl rfl (Nat.le_of_ble_eq_true rfl)) (ct_Hall_checkRunning_2 (t := t) (u5_1 := u5_7) (by omega) (by omega) c1_7) ⟨(Nat.le_of_ble_eq_true rfl), (Nat.le_of_ble_eq_true rfl), (Nat.le_of_ble_eq_true rfl), (Nat.le_of_ble_eq_true rfl)⟩ rfl
theorem ct_Hall_conditionFor_Condition_1 {A : Nat → Nat} {K : sh_II} {L : sh_DD} {t : Nat} {s : Nat} {q : Nat} (ht : t < 6) (hs : s < 8) (hq : q < 8) (eq : K 16 s = nI q) (hk_s : cw_cl (K 12 s) = 8) (hk_q : cw_cl (K 12 q) = 4) (c0_7 : (K 5 t) = -1) (c1_29 : (K 13 q) = -1) : sh_cM A md_Hall_conditionFor [.ref (A 0), .ref (A (10 + t)), .int (nI s)] K L (.inr 3) K L := by
  refine sh_cp (fun w Z k => sh_aload_n dc_Hall_conditionFor_0 rfl rfl k) ?_
  refine sh_cp (fun w Z k => sh_iload_n dc_Hall_conditionFor_1 rfl rfl k) ?_
  refine sh_ccall (fun w hw => sh_virt (As := [.int (nI s)]) dc_Hall_conditionFor_2 lm_Hall_syncAt ln_Hall_73 wd_272 wd_2 rfl rfl (Nat.le_of_ble_eq_true rfl) (hw _ _ cw_o0) rfl) (ct_Hall_syncAt_2 (s := s) (by omega) (cw_nz hk_s (by decide))) ⟨(Nat.le_of_ble_eq_true rfl), (Nat.le_of_ble_eq_true rfl), (Nat.le_of_ble_eq_true rfl), (Nat.le_of_ble_eq_true rfl)⟩ ?_
  show sh_cW _ _ (_, _, [.ref (A (20 + s))]) K L _ _ _ _ _
  refine sh_cp (fun w Z k => sh_astore_n dc_Hall_conditionFor_5 rfl (by decide) k) ?_
  refine sh_cp (fun w Z k => sh_aload_n dc_Hall_conditionFor_6 rfl rfl k) ?_
  refine sh_ccall (fun w hw => sh_stat (As := [.ref (A (10 + t))]) dc_Hall_conditionFor_7 lm_Hall_checkRunning ln_Hall_77 wd_463 wd_49 rfl rfl (Nat.le_of_ble_eq_true rfl)) (ct_Hall_checkRunning_1 (t := t) (by omega) c0_7) ⟨(Nat.le_of_ble_eq_true rfl), (Nat.le_of_ble_eq_true rfl), (Nat.le_of_ble_eq_true rfl), (Nat.le_of_ble_eq_true rfl)⟩ ?_
  show sh_cW _ _ (_, _, []) K L _ _ _ _ _
  refine sh_cp (fun w Z k => sh_aload_n dc_Hall_conditionFor_10 rfl rfl k) ?_
  refine sh_cinstY (20 + s) dc_Hall_conditionFor_11 wd_424 (cw_oc (by omega) hk_s) rfl (Or.inl rfl) ?_
  refine sh_cp (fun w Z k => sh_if_eq (tgt := 35) dc_Hall_conditionFor_14 (by decide) (fun z => absurd z (by decide)) (fun _ => k)) ?_
  refine sh_cp (fun w Z k => sh_aload_n dc_Hall_conditionFor_17 rfl rfl k) ?_
  refine sh_ccastY (20 + s) dc_Hall_conditionFor_18 wd_424 (cw_oc (by omega) hk_s) rfl (Or.inl rfl) ?_
  refine sh_cp (fun w Z k => sh_astore dc_Hall_conditionFor_21 (by decide) k) ?_
  refine sh_cp (fun w Z k => sh_aload_n dc_Hall_conditionFor_23 rfl rfl k) ?_
  refine sh_cp (fun w Z k => sh_aload dc_Hall_conditionFor_24 rfl k) ?_
  refine sh_cget (20 + s) 4 dc_Hall_conditionFor_26 (cw_oc (by omega) hk_s) rfl (by decide) fl_Hall_151 rfl rfl rfl rfl ?_
  refine sh_ctv (cw_rf_n eq (by omega)) ?_
  exact sh_ccallT (fun w hw => sh_stat (As := [.ref (A (10 + t)), .ref (A (20 + q))]) dc_Hall_conditionFor_29 lm_Hall_checkOwner ln_Hall_248 wd_639 wd_49 rfl rfl (Nat.le_of_ble_eq_true rfl)) (ct_Hall_checkOwner_1 (t := t) (s := q) (by omega) (by omega) hk_q c1_29) ⟨(Nat.le_of_ble_eq_true rfl), (Nat.le_of_ble_eq_true rfl), (Nat.le_of_ble_eq_true rfl), (Nat.le_of_ble_eq_true rfl)⟩ rfl
theorem ct_Hall_conditionFor_Condition_2 {A : Nat → Nat} {K : sh_II} {L : sh_DD} {t : Nat} {s : Nat} {q : Nat} {u13_29 : Nat} (ht : t < 6) (hs : s < 8) (hq : q < 8) (eq : K 16 s = nI q) (hk_s : cw_cl (K 12 s) = 8) (hk_q : cw_cl (K 12 q) = 4) (c0_7 : (K 5 t) = -1) (hu13_29 : u13_29 < 6) (c2_29 : (K 13 q) = nI u13_29) (c3_29 : u13_29 = t) : sh_cM A md_Hall_conditionFor [.ref (A 0), .ref (A (10 + t)), .int (nI s)] K L (.inl (some (.ref (A (20 + s))))) K L := by
  refine sh_cp (fun w Z k => sh_aload_n dc_Hall_conditionFor_0 rfl rfl k) ?_
  refine sh_cp (fun w Z k => sh_iload_n dc_Hall_conditionFor_1 rfl rfl k) ?_
  refine sh_ccall (fun w hw => sh_virt (As := [.int (nI s)]) dc_Hall_conditionFor_2 lm_Hall_syncAt ln_Hall_73 wd_272 wd_2 rfl rfl (Nat.le_of_ble_eq_true rfl) (hw _ _ cw_o0) rfl) (ct_Hall_syncAt_2 (s := s) (by omega) (cw_nz hk_s (by decide))) ⟨(Nat.le_of_ble_eq_true rfl), (Nat.le_of_ble_eq_true rfl), (Nat.le_of_ble_eq_true rfl), (Nat.le_of_ble_eq_true rfl)⟩ ?_
  show sh_cW _ _ (_, _, [.ref (A (20 + s))]) K L _ _ _ _ _
  refine sh_cp (fun w Z k => sh_astore_n dc_Hall_conditionFor_5 rfl (by decide) k) ?_
  refine sh_cp (fun w Z k => sh_aload_n dc_Hall_conditionFor_6 rfl rfl k) ?_
  refine sh_ccall (fun w hw => sh_stat (As := [.ref (A (10 + t))]) dc_Hall_conditionFor_7 lm_Hall_checkRunning ln_Hall_77 wd_463 wd_49 rfl rfl (Nat.le_of_ble_eq_true rfl)) (ct_Hall_checkRunning_1 (t := t) (by omega) c0_7) ⟨(Nat.le_of_ble_eq_true rfl), (Nat.le_of_ble_eq_true rfl), (Nat.le_of_ble_eq_true rfl), (Nat.le_of_ble_eq_true rfl)⟩ ?_
  show sh_cW _ _ (_, _, []) K L _ _ _ _ _
  refine sh_cp (fun w Z k => sh_aload_n dc_Hall_conditionFor_10 rfl rfl k) ?_
  refine sh_cinstY (20 + s) dc_Hall_conditionFor_11 wd_424 (cw_oc (by omega) hk_s) rfl (Or.inl rfl) ?_
  refine sh_cp (fun w Z k => sh_if_eq (tgt := 35) dc_Hall_conditionFor_14 (by decide) (fun z => absurd z (by decide)) (fun _ => k)) ?_
  refine sh_cp (fun w Z k => sh_aload_n dc_Hall_conditionFor_17 rfl rfl k) ?_
  refine sh_ccastY (20 + s) dc_Hall_conditionFor_18 wd_424 (cw_oc (by omega) hk_s) rfl (Or.inl rfl) ?_
  refine sh_cp (fun w Z k => sh_astore dc_Hall_conditionFor_21 (by decide) k) ?_
  refine sh_cp (fun w Z k => sh_aload_n dc_Hall_conditionFor_23 rfl rfl k) ?_
  refine sh_cp (fun w Z k => sh_aload dc_Hall_conditionFor_24 rfl k) ?_
  refine sh_cget (20 + s) 4 dc_Hall_conditionFor_26 (cw_oc (by omega) hk_s) rfl (by decide) fl_Hall_151 rfl rfl rfl rfl ?_
  refine sh_ctv (cw_rf_n eq (by omega)) ?_
  refine sh_ccall (fun w hw => sh_stat (As := [.ref (A (10 + t)), .ref (A (20 + q))]) dc_Hall_conditionFor_29 lm_Hall_checkOwner ln_Hall_248 wd_639 wd_49 rfl rfl (Nat.le_of_ble_eq_true rfl)) (ct_Hall_checkOwner_2 (t := t) (s := q) (u13_1 := u13_29) (by omega) (by omega) hk_q (by omega) c2_29 c3_29) ⟨(Nat.le_of_ble_eq_true rfl), (Nat.le_of_ble_eq_true rfl), (Nat.le_of_ble_eq_true rfl), (Nat.le_of_ble_eq_true rfl)⟩ ?_
  show sh_cW _ _ (_, _, []) K L _ _ _ _ _
  refine sh_cp (fun w Z k => sh_aload dc_Hall_conditionFor_32 rfl k) ?_
  exact sh_ce (fun w => sh_areturn (v := (some (A (20 + s)))) dc_Hall_conditionFor_34 rfl (by decide) (by decide))
theorem ct_Hall_conditionFor_Condition_3 {A : Nat → Nat} {K : sh_II} {L : sh_DD} {t : Nat} {s : Nat} {q : Nat} {u13_29 : Nat} (ht : t < 6) (hs : s < 8) (hq : q < 8) (eq : K 16 s = nI q) (hk_s : cw_cl (K 12 s) = 8) (hk_q : cw_cl (K 12 q) = 4) (c0_7 : (K 5 t) = -1) (hu13_29 : u13_29 < 6) (c2_29 : (K 13 q) = nI u13_29) (c3_29 : ¬ u13_29 = t) : sh_cM A md_Hall_conditionFor [.ref (A 0), .ref (A (10 + t)), .int (nI s)] K L (.inr 3) K L := by
  refine sh_cp (fun w Z k => sh_aload_n dc_Hall_conditionFor_0 rfl rfl k) ?_
  refine sh_cp (fun w Z k => sh_iload_n dc_Hall_conditionFor_1 rfl rfl k) ?_
  refine sh_ccall (fun w hw => sh_virt (As := [.int (nI s)]) dc_Hall_conditionFor_2 lm_Hall_syncAt ln_Hall_73 wd_272 wd_2 rfl rfl (Nat.le_of_ble_eq_true rfl) (hw _ _ cw_o0) rfl) (ct_Hall_syncAt_2 (s := s) (by omega) (cw_nz hk_s (by decide))) ⟨(Nat.le_of_ble_eq_true rfl), (Nat.le_of_ble_eq_true rfl), (Nat.le_of_ble_eq_true rfl), (Nat.le_of_ble_eq_true rfl)⟩ ?_
  show sh_cW _ _ (_, _, [.ref (A (20 + s))]) K L _ _ _ _ _
  refine sh_cp (fun w Z k => sh_astore_n dc_Hall_conditionFor_5 rfl (by decide) k) ?_
  refine sh_cp (fun w Z k => sh_aload_n dc_Hall_conditionFor_6 rfl rfl k) ?_
  refine sh_ccall (fun w hw => sh_stat (As := [.ref (A (10 + t))]) dc_Hall_conditionFor_7 lm_Hall_checkRunning ln_Hall_77 wd_463 wd_49 rfl rfl (Nat.le_of_ble_eq_true rfl)) (ct_Hall_checkRunning_1 (t := t) (by omega) c0_7) ⟨(Nat.le_of_ble_eq_true rfl), (Nat.le_of_ble_eq_true rfl), (Nat.le_of_ble_eq_true rfl), (Nat.le_of_ble_eq_true rfl)⟩ ?_
  show sh_cW _ _ (_, _, []) K L _ _ _ _ _
  refine sh_cp (fun w Z k => sh_aload_n dc_Hall_conditionFor_10 rfl rfl k) ?_
  refine sh_cinstY (20 + s) dc_Hall_conditionFor_11 wd_424 (cw_oc (by omega) hk_s) rfl (Or.inl rfl) ?_
  refine sh_cp (fun w Z k => sh_if_eq (tgt := 35) dc_Hall_conditionFor_14 (by decide) (fun z => absurd z (by decide)) (fun _ => k)) ?_
  refine sh_cp (fun w Z k => sh_aload_n dc_Hall_conditionFor_17 rfl rfl k) ?_
  refine sh_ccastY (20 + s) dc_Hall_conditionFor_18 wd_424 (cw_oc (by omega) hk_s) rfl (Or.inl rfl) ?_
  refine sh_cp (fun w Z k => sh_astore dc_Hall_conditionFor_21 (by decide) k) ?_
  refine sh_cp (fun w Z k => sh_aload_n dc_Hall_conditionFor_23 rfl rfl k) ?_
  refine sh_cp (fun w Z k => sh_aload dc_Hall_conditionFor_24 rfl k) ?_
  refine sh_cget (20 + s) 4 dc_Hall_conditionFor_26 (cw_oc (by omega) hk_s) rfl (by decide) fl_Hall_151 rfl rfl rfl rfl ?_
  refine sh_ctv (cw_rf_n eq (by omega)) ?_
  exact sh_ccallT (fun w hw => sh_stat (As := [.ref (A (10 + t)), .ref (A (20 + q))]) dc_Hall_conditionFor_29 lm_Hall_checkOwner ln_Hall_248 wd_639 wd_49 rfl rfl (Nat.le_of_ble_eq_true rfl)) (ct_Hall_checkOwner_3 (t := t) (s := q) (u13_1 := u13_29) (by omega) (by omega) hk_q (by omega) c2_29 c3_29) ⟨(Nat.le_of_ble_eq_true rfl), (Nat.le_of_ble_eq_true rfl), (Nat.le_of_ble_eq_true rfl), (Nat.le_of_ble_eq_true rfl)⟩ rfl
theorem ct_Hall_conditionFor_Condition_4 {A : Nat → Nat} {K : sh_II} {L : sh_DD} {t : Nat} {s : Nat} {q : Nat} {u5_7 : Nat} (ht : t < 6) (hs : s < 8) (hq : q < 8) (eq : K 16 s = nI q) (hk_s : cw_cl (K 12 s) = 8) (hk_q : cw_cl (K 12 q) = 4) (hu5_7 : u5_7 < 8) (c1_7 : (K 5 t) = nI u5_7) : sh_cM A md_Hall_conditionFor [.ref (A 0), .ref (A (10 + t)), .int (nI s)] K L (.inr 3) K L := by
  refine sh_cp (fun w Z k => sh_aload_n dc_Hall_conditionFor_0 rfl rfl k) ?_
  refine sh_cp (fun w Z k => sh_iload_n dc_Hall_conditionFor_1 rfl rfl k) ?_
  refine sh_ccall (fun w hw => sh_virt (As := [.int (nI s)]) dc_Hall_conditionFor_2 lm_Hall_syncAt ln_Hall_73 wd_272 wd_2 rfl rfl (Nat.le_of_ble_eq_true rfl) (hw _ _ cw_o0) rfl) (ct_Hall_syncAt_2 (s := s) (by omega) (cw_nz hk_s (by decide))) ⟨(Nat.le_of_ble_eq_true rfl), (Nat.le_of_ble_eq_true rfl), (Nat.le_of_ble_eq_true rfl), (Nat.le_of_ble_eq_true rfl)⟩ ?_
  show sh_cW _ _ (_, _, [.ref (A (20 + s))]) K L _ _ _ _ _
  refine sh_cp (fun w Z k => sh_astore_n dc_Hall_conditionFor_5 rfl (by decide) k) ?_
  refine sh_cp (fun w Z k => sh_aload_n dc_Hall_conditionFor_6 rfl rfl k) ?_
  exact sh_ccallT (fun w hw => sh_stat (As := [.ref (A (10 + t))]) dc_Hall_conditionFor_7 lm_Hall_checkRunning ln_Hall_77 wd_463 wd_49 rfl rfl (Nat.le_of_ble_eq_true rfl)) (ct_Hall_checkRunning_2 (t := t) (u5_1 := u5_7) (by omega) (by omega) c1_7) ⟨(Nat.le_of_ble_eq_true rfl), (Nat.le_of_ble_eq_true rfl), (Nat.le_of_ble_eq_true rfl), (Nat.le_of_ble_eq_true rfl)⟩ rfl
theorem ct_Hall_conditionFor_none_1 {A : Nat → Nat} {K : sh_II} {L : sh_DD} {t : Nat} {s : Nat} (ht : t < 6) (hs : s < 8) (hz0 : cw_cl (K 12 s) = 0) : sh_cM A md_Hall_conditionFor [.ref (A 0), .ref (A (10 + t)), .int (nI s)] K L (.inr 2) K L := by
  refine sh_cp (fun w Z k => sh_aload_n dc_Hall_conditionFor_0 rfl rfl k) ?_
  refine sh_cp (fun w Z k => sh_iload_n dc_Hall_conditionFor_1 rfl rfl k) ?_
  exact sh_ccallT (fun w hw => sh_virt (As := [.int (nI s)]) dc_Hall_conditionFor_2 lm_Hall_syncAt ln_Hall_73 wd_272 wd_2 rfl rfl (Nat.le_of_ble_eq_true rfl) (hw _ _ cw_o0) rfl) (ct_Hall_syncAt_1 (s := s) (by omega) hz0) ⟨(Nat.le_of_ble_eq_true rfl), (Nat.le_of_ble_eq_true rfl), (Nat.le_of_ble_eq_true rfl), (Nat.le_of_ble_eq_true rfl)⟩ rfl
theorem ct_Hall_conditionFor_x_1 {A : Nat → Nat} {K : sh_II} {L : sh_DD} {t : Nat} {x : Int32} (ht : t < 6) (c0_2 : x < 0) : sh_cM A md_Hall_conditionFor [.ref (A 0), .ref (A (10 + t)), .int x] K L (.inr 1) K L := by
  refine sh_cp (fun w Z k => sh_aload_n dc_Hall_conditionFor_0 rfl rfl k) ?_
  refine sh_cp (fun w Z k => sh_iload_n dc_Hall_conditionFor_1 rfl rfl k) ?_
  exact sh_ccallT (fun w hw => sh_virt (As := [.int x]) dc_Hall_conditionFor_2 lm_Hall_syncAt ln_Hall_73 wd_272 wd_2 rfl rfl (Nat.le_of_ble_eq_true rfl) (hw _ _ cw_o0) rfl) (ct_Hall_syncAt_x_1 (x := x) c0_2) ⟨(Nat.le_of_ble_eq_true rfl), (Nat.le_of_ble_eq_true rfl), (Nat.le_of_ble_eq_true rfl), (Nat.le_of_ble_eq_true rfl)⟩ rfl
theorem ct_Hall_conditionFor_x_2 {A : Nat → Nat} {K : sh_II} {L : sh_DD} {t : Nat} {x : Int32} (ht : t < 6) (c0_2 : ¬ x < 0) (c1_2 : ¬ x ≤ 7) : sh_cM A md_Hall_conditionFor [.ref (A 0), .ref (A (10 + t)), .int x] K L (.inr 1) K L := by
  refine sh_cp (fun w Z k => sh_aload_n dc_Hall_conditionFor_0 rfl rfl k) ?_
  refine sh_cp (fun w Z k => sh_iload_n dc_Hall_conditionFor_1 rfl rfl k) ?_
  exact sh_ccallT (fun w hw => sh_virt (As := [.int x]) dc_Hall_conditionFor_2 lm_Hall_syncAt ln_Hall_73 wd_272 wd_2 rfl rfl (Nat.le_of_ble_eq_true rfl) (hw _ _ cw_o0) rfl) (ct_Hall_syncAt_x_2 (x := x) c0_2 c1_2) ⟨(Nat.le_of_ble_eq_true rfl), (Nat.le_of_ble_eq_true rfl), (Nat.le_of_ble_eq_true rfl), (Nat.le_of_ble_eq_true rfl)⟩ rfl
theorem ct_Hall_keepOrder_Lock_1 {A : Nat → Nat} {K : sh_II} {L : sh_DD} {t : Nat} {s : Nat} (ht : t < 6) (hs : s < 8) (ho : cw_okr K) (hk_s : cw_cl (K 12 s) = 4) (c0_7 : (K 24 0) = 0) : sh_cM A md_Hall_keepOrder [.ref (A 0), .ref (A (10 + t)), .ref (A (20 + s)), .int (nI s)] K L (.inl none) K L := by
  refine sh_cp (fun w Z k => sh_aload_n dc_Hall_keepOrder_0 rfl rfl k) ?_
  refine sh_cget 0 2 dc_Hall_keepOrder_1 cw_o0 rfl (by decide) fl_Hall_27 rfl rfl rfl rfl ?_
  refine sh_cget 3 1 dc_Hall_keepOrder_4 cw_o3 rfl (by decide) fl_Hall_193 rfl rfl rfl rfl ?_
  refine sh_cp (fun w Z k => sh_if_eq (tgt := 25) dc_Hall_keepOrder_7 (by decide) (fun _ => k) (fun z => absurd c0_7 z)) ?_
  exact sh_ce (fun w => sh_return dc_Hall_keepOrder_25 rfl (by decide) (by decide))
theorem ct_Hall_keepOrder_Lock_2 {A : Nat → Nat} {K : sh_II} {L : sh_DD} {t : Nat} {s : Nat} (ht : t < 6) (hs : s < 8) (ho : cw_okr K) (hk_s : cw_cl (K 12 s) = 4) (c0_7 : ¬ (K 24 0) = 0) (c1_19 : (K 13 s) = -1) (c2_43 : (sp_b (sp_bef K s (sp_own K t))) = 0) : sh_cM A md_Hall_keepOrder [.ref (A 0), .ref (A (10 + t)), .ref (A (20 + s)), .int (nI s)] K L (.inl none) (sp_put K (sp_own K t) s) L := by
  refine sh_cp (fun w Z k => sh_aload_n dc_Hall_keepOrder_0 rfl rfl k) ?_
  refine sh_cget 0 2 dc_Hall_keepOrder_1 cw_o0 rfl (by decide) fl_Hall_27 rfl rfl rfl rfl ?_
  refine sh_cget 3 1 dc_Hall_keepOrder_4 cw_o3 rfl (by decide) fl_Hall_193 rfl rfl rfl rfl ?_
  refine sh_cp (fun w Z k => sh_if_eq (tgt := 25) dc_Hall_keepOrder_7 (by decide) (fun z => absurd z c0_7) (fun _ => k)) ?_
  refine sh_cp (fun w Z k => sh_aload_n dc_Hall_keepOrder_10 rfl rfl k) ?_
  refine sh_cinstY (20 + s) dc_Hall_keepOrder_11 wd_290 (cw_ol (by omega) hk_s) rfl (Or.inl rfl) ?_
  refine sh_cp (fun w Z k => sh_if_eq (tgt := 25) dc_Hall_keepOrder_14 (by decide) (fun z => absurd z (by decide)) (fun _ => k)) ?_
  refine sh_cp (fun w Z k => sh_aload_n dc_Hall_keepOrder_17 rfl rfl k) ?_
  refine sh_cp (fun w Z k => sh_aload_n dc_Hall_keepOrder_18 rfl rfl k) ?_
  refine sh_ccall (fun w hw => sh_virtU (As := [.ref (A (10 + t))]) dc_Hall_keepOrder_19 lm_Lock_holdOf wd_502 wd_503 (Or.inl wd_504) ⟨by decide, by decide⟩ (by decide +kernel) wd_808 wd_506 rfl rfl (Nat.le_of_ble_eq_true rfl) (hw _ _ (cw_ol (by omega) hk_s)) rfl) (ct_Lock_holdOf_1 (t := t) (s := s) (by omega) (by omega) hk_s c1_19) ⟨(Nat.le_of_ble_eq_true rfl), (Nat.le_of_ble_eq_true rfl), (Nat.le_of_ble_eq_true rfl), (Nat.le_of_ble_eq_true rfl)⟩ ?_
  show sh_cW _ _ (_, _, [.int 0]) K L _ _ _ _ _
  refine sh_cp (fun w Z k => sh_if_le (tgt := 26) dc_Hall_keepOrder_22 (by decide) (fun _ => k) (fun z => absurd (by decide) z)) ?_
  refine sh_cp (fun w Z k => sh_aload_n dc_Hall_keepOrder_26 rfl rfl k) ?_
  refine sh_cp (fun w Z k => sh_aload_n dc_Hall_keepOrder_27 rfl rfl k) ?_
  refine sh_ccall (fun w hw => sh_virt (As := [.ref (A (10 + t))]) dc_Hall_keepOrder_28 lm_Hall_locksOwnedBy ln_Hall_276 wd_513 wd_8 rfl rfl (Nat.le_of_ble_eq_true rfl) (hw _ _ cw_o0) rfl) (cl_locksOwnedBy (t := t) (by omega) ho) ⟨(Nat.le_of_ble_eq_true rfl), (Nat.le_of_ble_eq_true rfl), (Nat.le_of_ble_eq_true rfl), (Nat.le_of_ble_eq_true rfl)⟩ ?_
  show sh_cW _ _ (_, _, [.int (sp_own K t)]) K L _ _ _ _ _
  refine sh_cp (fun w Z k => sh_istore dc_Hall_keepOrder_31 (by decide) k) ?_
  refine sh_cp (fun w Z k => sh_aload_n dc_Hall_keepOrder_33 rfl rfl k) ?_
  refine sh_cget 0 2 dc_Hall_keepOrder_34 cw_o0 rfl (by decide) fl_Hall_27 rfl rfl rfl rfl ?_
  refine sh_cp (fun w Z k => sh_iload_n dc_Hall_keepOrder_37 rfl rfl k) ?_
  refine sh_cp (fun w Z k => sh_iload dc_Hall_keepOrder_38 rfl k) ?_
  refine sh_ccall (fun w hw => sh_virt (As := [.int (nI s), .int (sp_own K t)]) dc_Hall_keepOrder_40 lm_LockOrder_isBeforeAny ln_Hall_279 wd_517 wd_9 rfl rfl (Nat.le_of_ble_eq_true rfl) (hw _ _ cw_o3) rfl) (cl_isBefore (j := s) (x := sp_own K t) (by omega)) ⟨(Nat.le_of_ble_eq_true rfl), (Nat.le_of_ble_eq_true rfl), (Nat.le_of_ble_eq_true rfl), (Nat.le_of_ble_eq_true rfl)⟩ ?_
  show sh_cW _ _ (_, _, [.int (sp_b (sp_bef K s (sp_own K t)))]) K L _ _ _ _ _
  refine sh_cp (fun w Z k => sh_if_eq (tgt := 81) dc_Hall_keepOrder_43 (by decide) (fun _ => k) (fun z => absurd c2_43 z)) ?_
  refine sh_cp (fun w Z k => sh_aload_n dc_Hall_keepOrder_81 rfl rfl k) ?_
  refine sh_cget 0 2 dc_Hall_keepOrder_82 cw_o0 rfl (by decide) fl_Hall_27 rfl rfl rfl rfl ?_
  refine sh_cp (fun w Z k => sh_iload dc_Hall_keepOrder_85 rfl k) ?_
  refine sh_cp (fun w Z k => sh_iload_n dc_Hall_keepOrder_87 rfl rfl k) ?_
  refine sh_ccall (fun w hw => sh_virt (As := [.int (sp_own K t), .int (nI s)]) dc_Hall_keepOrder_88 lm_LockOrder_putBefore ln_Hall_285 wd_526 wd_11 rfl rfl (Nat.le_of_ble_eq_true rfl) (hw _ _ cw_o3) rfl) (cl_putBefore (x := sp_own K t) (j := s)) ⟨(Nat.le_of_ble_eq_true rfl), (Nat.le_of_ble_eq_true rfl), (Nat.le_of_ble_eq_true rfl), (Nat.le_of_ble_eq_true rfl)⟩ ?_
  show sh_cW _ _ (_, _, []) (sp_put K (sp_own K t) s) L _ _ _ _ _
  exact sh_ce (fun w => sh_return dc_Hall_keepOrder_91 rfl (by decide) (by decide))
theorem ct_Hall_keepOrder_Lock_3 {A : Nat → Nat} {K : sh_II} {L : sh_DD} {t : Nat} {s : Nat} (ht : t < 6) (hs : s < 8) (ho : cw_okr K) (hk_s : cw_cl (K 12 s) = 4) (c0_7 : ¬ (K 24 0) = 0) (c1_19 : (K 13 s) = -1) (c2_43 : ¬ (sp_b (sp_bef K s (sp_own K t))) = 0) (c3_67 : (K 24 0) = 2) : sh_cM A md_Hall_keepOrder [.ref (A 0), .ref (A (10 + t)), .ref (A (20 + s)), .int (nI s)] K L (.inr 4) (sh_u2 K 25 0 ((K 25 0) + 1)) L := by
  refine sh_cp (fun w Z k => sh_aload_n dc_Hall_keepOrder_0 rfl rfl k) ?_
  refine sh_cget 0 2 dc_Hall_keepOrder_1 cw_o0 rfl (by decide) fl_Hall_27 rfl rfl rfl rfl ?_
  refine sh_cget 3 1 dc_Hall_keepOrder_4 cw_o3 rfl (by decide) fl_Hall_193 rfl rfl rfl rfl ?_
  refine sh_cp (fun w Z k => sh_if_eq (tgt := 25) dc_Hall_keepOrder_7 (by decide) (fun z => absurd z c0_7) (fun _ => k)) ?_
  refine sh_cp (fun w Z k => sh_aload_n dc_Hall_keepOrder_10 rfl rfl k) ?_
  refine sh_cinstY (20 + s) dc_Hall_keepOrder_11 wd_290 (cw_ol (by omega) hk_s) rfl (Or.inl rfl) ?_
  refine sh_cp (fun w Z k => sh_if_eq (tgt := 25) dc_Hall_keepOrder_14 (by decide) (fun z => absurd z (by decide)) (fun _ => k)) ?_
  refine sh_cp (fun w Z k => sh_aload_n dc_Hall_keepOrder_17 rfl rfl k) ?_
  refine sh_cp (fun w Z k => sh_aload_n dc_Hall_keepOrder_18 rfl rfl k) ?_
  refine sh_ccall (fun w hw => sh_virtU (As := [.ref (A (10 + t))]) dc_Hall_keepOrder_19 lm_Lock_holdOf wd_502 wd_503 (Or.inl wd_504) ⟨by decide, by decide⟩ (by decide +kernel) wd_808 wd_506 rfl rfl (Nat.le_of_ble_eq_true rfl) (hw _ _ (cw_ol (by omega) hk_s)) rfl) (ct_Lock_holdOf_1 (t := t) (s := s) (by omega) (by omega) hk_s c1_19) ⟨(Nat.le_of_ble_eq_true rfl), (Nat.le_of_ble_eq_true rfl), (Nat.le_of_ble_eq_true rfl), (Nat.le_of_ble_eq_true rfl)⟩ ?_
  show sh_cW _ _ (_, _, [.int 0]) K L _ _ _ _ _
  refine sh_cp (fun w Z k => sh_if_le (tgt := 26) dc_Hall_keepOrder_22 (by decide) (fun _ => k) (fun z => absurd (by decide) z)) ?_
  refine sh_cp (fun w Z k => sh_aload_n dc_Hall_keepOrder_26 rfl rfl k) ?_
  refine sh_cp (fun w Z k => sh_aload_n dc_Hall_keepOrder_27 rfl rfl k) ?_
  refine sh_ccall (fun w hw => sh_virt (As := [.ref (A (10 + t))]) dc_Hall_keepOrder_28 lm_Hall_locksOwnedBy ln_Hall_276 wd_513 wd_8 rfl rfl (Nat.le_of_ble_eq_true rfl) (hw _ _ cw_o0) rfl) (cl_locksOwnedBy (t := t) (by omega) ho) ⟨(Nat.le_of_ble_eq_true rfl), (Nat.le_of_ble_eq_true rfl), (Nat.le_of_ble_eq_true rfl), (Nat.le_of_ble_eq_true rfl)⟩ ?_
  show sh_cW _ _ (_, _, [.int (sp_own K t)]) K L _ _ _ _ _
  refine sh_cp (fun w Z k => sh_istore dc_Hall_keepOrder_31 (by decide) k) ?_
  refine sh_cp (fun w Z k => sh_aload_n dc_Hall_keepOrder_33 rfl rfl k) ?_
  refine sh_cget 0 2 dc_Hall_keepOrder_34 cw_o0 rfl (by decide) fl_Hall_27 rfl rfl rfl rfl ?_
  refine sh_cp (fun w Z k => sh_iload_n dc_Hall_keepOrder_37 rfl rfl k) ?_
  refine sh_cp (fun w Z k => sh_iload dc_Hall_keepOrder_38 rfl k) ?_
  refine sh_ccall (fun w hw => sh_virt (As := [.int (nI s), .int (sp_own K t)]) dc_Hall_keepOrder_40 lm_LockOrder_isBeforeAny ln_Hall_279 wd_517 wd_9 rfl rfl (Nat.le_of_ble_eq_true rfl) (hw _ _ cw_o3) rfl) (cl_isBefore (j := s) (x := sp_own K t) (by omega)) ⟨(Nat.le_of_ble_eq_true rfl), (Nat.le_of_ble_eq_true rfl), (Nat.le_of_ble_eq_true rfl), (Nat.le_of_ble_eq_true rfl)⟩ ?_
  show sh_cW _ _ (_, _, [.int (sp_b (sp_bef K s (sp_own K t)))]) K L _ _ _ _ _
  refine sh_cp (fun w Z k => sh_if_eq (tgt := 81) dc_Hall_keepOrder_43 (by decide) (fun z => absurd z c2_43) (fun _ => k)) ?_
  refine sh_cp (fun w Z k => sh_aload_n dc_Hall_keepOrder_46 rfl rfl k) ?_
  refine sh_cget 0 2 dc_Hall_keepOrder_47 cw_o0 rfl (by decide) fl_Hall_27 rfl rfl rfl rfl ?_
  refine sh_cp (fun w Z k => sh_dup dc_Hall_keepOrder_50 rfl k) ?_
  refine sh_cget 3 2 dc_Hall_keepOrder_51 cw_o3 rfl (by decide) fl_Hall_196 rfl rfl rfl rfl ?_
  refine sh_cp (fun w Z k => sh_iconst (v := 1) dc_Hall_keepOrder_54 (by decide) k) ?_
  refine sh_cp (fun w Z k => sh_iadd dc_Hall_keepOrder_55 k) ?_
  refine sh_cput (K1 := (sh_u2 K 25 0 ((K 25 0) + 1))) (L1 := L) 3 2 dc_Hall_keepOrder_56 cw_o3 rfl (by decide) fl_Hall_196 rfl rfl rfl rfl pd_I rfl rfl (cq_LockOrder_25 ) (fun i hi => cw_upI (by decide) hi) ?_
  refine sh_cp (fun w Z k => sh_aload_n dc_Hall_keepOrder_59 rfl rfl k) ?_
  refine sh_cget 0 2 dc_Hall_keepOrder_60 cw_o0 rfl (by decide) fl_Hall_27 rfl rfl rfl rfl ?_
  refine sh_cget 3 1 dc_Hall_keepOrder_63 cw_o3 rfl (by decide) fl_Hall_193 rfl rfl rfl rfl ?_
  refine sh_cti (show (sh_u2 K 25 0 ((K 25 0) + 1)) 24 0 = K 24 0 from (sh_u2_row (by decide) _)) ?_
  refine sh_cp (fun w Z k => sh_iconst (v := 2) dc_Hall_keepOrder_66 (by decide) k) ?_
  refine sh_cp (fun w Z k => sh_icmp_ne (tgt := 81) dc_Hall_keepOrder_67 (by decide) (fun z => absurd c3_67 z) (fun _ => k)) ?_
  exact sh_ct (fun w => sh_thr (lx := 3) (tx := "the lock comes before one that is owned") dc_Hall_keepOrder_70 dc_Hall_keepOrder_73 (Or.inr ⟨dc_Hall_keepOrder_74, rfl⟩) dc_Hall_keepOrder_77 dc_Hall_keepOrder_80 lx_Hall_243_247 (by decide +kernel) rfl (by decide) (by decide) (by decide) (by decide))
theorem ct_Hall_keepOrder_Lock_4 {A : Nat → Nat} {K : sh_II} {L : sh_DD} {t : Nat} {s : Nat} (ht : t < 6) (hs : s < 8) (ho : cw_okr K) (hk_s : cw_cl (K 12 s) = 4) (c0_7 : ¬ (K 24 0) = 0) (c1_19 : (K 13 s) = -1) (c2_43 : ¬ (sp_b (sp_bef K s (sp_own K t))) = 0) (c3_67 : ¬ (K 24 0) = 2) : sh_cM A md_Hall_keepOrder [.ref (A 0), .ref (A (10 + t)), .ref (A (20 + s)), .int (nI s)] K L (.inl none) (sp_put (sh_u2 K 25 0 ((K 25 0) + 1)) (sp_own K t) s) L := by
  refine sh_cp (fun w Z k => sh_aload_n dc_Hall_keepOrder_0 rfl rfl k) ?_
  refine sh_cget 0 2 dc_Hall_keepOrder_1 cw_o0 rfl (by decide) fl_Hall_27 rfl rfl rfl rfl ?_
  refine sh_cget 3 1 dc_Hall_keepOrder_4 cw_o3 rfl (by decide) fl_Hall_193 rfl rfl rfl rfl ?_
  refine sh_cp (fun w Z k => sh_if_eq (tgt := 25) dc_Hall_keepOrder_7 (by decide) (fun z => absurd z c0_7) (fun _ => k)) ?_
  refine sh_cp (fun w Z k => sh_aload_n dc_Hall_keepOrder_10 rfl rfl k) ?_
  refine sh_cinstY (20 + s) dc_Hall_keepOrder_11 wd_290 (cw_ol (by omega) hk_s) rfl (Or.inl rfl) ?_
  refine sh_cp (fun w Z k => sh_if_eq (tgt := 25) dc_Hall_keepOrder_14 (by decide) (fun z => absurd z (by decide)) (fun _ => k)) ?_
  refine sh_cp (fun w Z k => sh_aload_n dc_Hall_keepOrder_17 rfl rfl k) ?_
  refine sh_cp (fun w Z k => sh_aload_n dc_Hall_keepOrder_18 rfl rfl k) ?_
  refine sh_ccall (fun w hw => sh_virtU (As := [.ref (A (10 + t))]) dc_Hall_keepOrder_19 lm_Lock_holdOf wd_502 wd_503 (Or.inl wd_504) ⟨by decide, by decide⟩ (by decide +kernel) wd_808 wd_506 rfl rfl (Nat.le_of_ble_eq_true rfl) (hw _ _ (cw_ol (by omega) hk_s)) rfl) (ct_Lock_holdOf_1 (t := t) (s := s) (by omega) (by omega) hk_s c1_19) ⟨(Nat.le_of_ble_eq_true rfl), (Nat.le_of_ble_eq_true rfl), (Nat.le_of_ble_eq_true rfl), (Nat.le_of_ble_eq_true rfl)⟩ ?_
  show sh_cW _ _ (_, _, [.int 0]) K L _ _ _ _ _
  refine sh_cp (fun w Z k => sh_if_le (tgt := 26) dc_Hall_keepOrder_22 (by decide) (fun _ => k) (fun z => absurd (by decide) z)) ?_
  refine sh_cp (fun w Z k => sh_aload_n dc_Hall_keepOrder_26 rfl rfl k) ?_
  refine sh_cp (fun w Z k => sh_aload_n dc_Hall_keepOrder_27 rfl rfl k) ?_
  refine sh_ccall (fun w hw => sh_virt (As := [.ref (A (10 + t))]) dc_Hall_keepOrder_28 lm_Hall_locksOwnedBy ln_Hall_276 wd_513 wd_8 rfl rfl (Nat.le_of_ble_eq_true rfl) (hw _ _ cw_o0) rfl) (cl_locksOwnedBy (t := t) (by omega) ho) ⟨(Nat.le_of_ble_eq_true rfl), (Nat.le_of_ble_eq_true rfl), (Nat.le_of_ble_eq_true rfl), (Nat.le_of_ble_eq_true rfl)⟩ ?_
  show sh_cW _ _ (_, _, [.int (sp_own K t)]) K L _ _ _ _ _
  refine sh_cp (fun w Z k => sh_istore dc_Hall_keepOrder_31 (by decide) k) ?_
  refine sh_cp (fun w Z k => sh_aload_n dc_Hall_keepOrder_33 rfl rfl k) ?_
  refine sh_cget 0 2 dc_Hall_keepOrder_34 cw_o0 rfl (by decide) fl_Hall_27 rfl rfl rfl rfl ?_
  refine sh_cp (fun w Z k => sh_iload_n dc_Hall_keepOrder_37 rfl rfl k) ?_
  refine sh_cp (fun w Z k => sh_iload dc_Hall_keepOrder_38 rfl k) ?_
  refine sh_ccall (fun w hw => sh_virt (As := [.int (nI s), .int (sp_own K t)]) dc_Hall_keepOrder_40 lm_LockOrder_isBeforeAny ln_Hall_279 wd_517 wd_9 rfl rfl (Nat.le_of_ble_eq_true rfl) (hw _ _ cw_o3) rfl) (cl_isBefore (j := s) (x := sp_own K t) (by omega)) ⟨(Nat.le_of_ble_eq_true rfl), (Nat.le_of_ble_eq_true rfl), (Nat.le_of_ble_eq_true rfl), (Nat.le_of_ble_eq_true rfl)⟩ ?_
  show sh_cW _ _ (_, _, [.int (sp_b (sp_bef K s (sp_own K t)))]) K L _ _ _ _ _
  refine sh_cp (fun w Z k => sh_if_eq (tgt := 81) dc_Hall_keepOrder_43 (by decide) (fun z => absurd z c2_43) (fun _ => k)) ?_
  refine sh_cp (fun w Z k => sh_aload_n dc_Hall_keepOrder_46 rfl rfl k) ?_
  refine sh_cget 0 2 dc_Hall_keepOrder_47 cw_o0 rfl (by decide) fl_Hall_27 rfl rfl rfl rfl ?_
  refine sh_cp (fun w Z k => sh_dup dc_Hall_keepOrder_50 rfl k) ?_
  refine sh_cget 3 2 dc_Hall_keepOrder_51 cw_o3 rfl (by decide) fl_Hall_196 rfl rfl rfl rfl ?_
  refine sh_cp (fun w Z k => sh_iconst (v := 1) dc_Hall_keepOrder_54 (by decide) k) ?_
  refine sh_cp (fun w Z k => sh_iadd dc_Hall_keepOrder_55 k) ?_
  refine sh_cput (K1 := (sh_u2 K 25 0 ((K 25 0) + 1))) (L1 := L) 3 2 dc_Hall_keepOrder_56 cw_o3 rfl (by decide) fl_Hall_196 rfl rfl rfl rfl pd_I rfl rfl (cq_LockOrder_25 ) (fun i hi => cw_upI (by decide) hi) ?_
  refine sh_cp (fun w Z k => sh_aload_n dc_Hall_keepOrder_59 rfl rfl k) ?_
  refine sh_cget 0 2 dc_Hall_keepOrder_60 cw_o0 rfl (by decide) fl_Hall_27 rfl rfl rfl rfl ?_
  refine sh_cget 3 1 dc_Hall_keepOrder_63 cw_o3 rfl (by decide) fl_Hall_193 rfl rfl rfl rfl ?_
  refine sh_cti (show (sh_u2 K 25 0 ((K 25 0) + 1)) 24 0 = K 24 0 from (sh_u2_row (by decide) _)) ?_
  refine sh_cp (fun w Z k => sh_iconst (v := 2) dc_Hall_keepOrder_66 (by decide) k) ?_
  refine sh_cp (fun w Z k => sh_icmp_ne (tgt := 81) dc_Hall_keepOrder_67 (by decide) (fun _ => k) (fun z => absurd z c3_67)) ?_
  refine sh_cp (fun w Z k => sh_aload_n dc_Hall_keepOrder_81 rfl rfl k) ?_
  refine sh_cget 0 2 dc_Hall_keepOrder_82 cw_o0 rfl (by decide) fl_Hall_27 rfl rfl rfl rfl ?_
  refine sh_cp (fun w Z k => sh_iload dc_Hall_keepOrder_85 rfl k) ?_
  refine sh_cp (fun w Z k => sh_iload_n dc_Hall_keepOrder_87 rfl rfl k) ?_
  refine sh_ccall (fun w hw => sh_virt (As := [.int (sp_own K t), .int (nI s)]) dc_Hall_keepOrder_88 lm_LockOrder_putBefore ln_Hall_285 wd_526 wd_11 rfl rfl (Nat.le_of_ble_eq_true rfl) (hw _ _ cw_o3) rfl) (cl_putBefore (x := sp_own K t) (j := s)) ⟨(Nat.le_of_ble_eq_true rfl), (Nat.le_of_ble_eq_true rfl), (Nat.le_of_ble_eq_true rfl), (Nat.le_of_ble_eq_true rfl)⟩ ?_
  show sh_cW _ _ (_, _, []) (sp_put (sh_u2 K 25 0 ((K 25 0) + 1)) (sp_own K t) s) L _ _ _ _ _
  exact sh_ce (fun w => sh_return dc_Hall_keepOrder_91 rfl (by decide) (by decide))
theorem ct_Hall_keepOrder_Lock_5 {A : Nat → Nat} {K : sh_II} {L : sh_DD} {t : Nat} {s : Nat} {u13_19 : Nat} (ht : t < 6) (hs : s < 8) (ho : cw_okr K) (hk_s : cw_cl (K 12 s) = 4) (c0_7 : ¬ (K 24 0) = 0) (hu13_19 : u13_19 < 6) (c2_19 : (K 13 s) = nI u13_19) (c3_19 : u13_19 = t) (c4_22 : (K 14 s) ≤ 0) (c5_43 : (sp_b (sp_bef K s (sp_own K t))) = 0) : sh_cM A md_Hall_keepOrder [.ref (A 0), .ref (A (10 + t)), .ref (A (20 + s)), .int (nI s)] K L (.inl none) (sp_put K (sp_own K t) s) L := by
  refine sh_cp (fun w Z k => sh_aload_n dc_Hall_keepOrder_0 rfl rfl k) ?_
  refine sh_cget 0 2 dc_Hall_keepOrder_1 cw_o0 rfl (by decide) fl_Hall_27 rfl rfl rfl rfl ?_
  refine sh_cget 3 1 dc_Hall_keepOrder_4 cw_o3 rfl (by decide) fl_Hall_193 rfl rfl rfl rfl ?_
  refine sh_cp (fun w Z k => sh_if_eq (tgt := 25) dc_Hall_keepOrder_7 (by decide) (fun z => absurd z c0_7) (fun _ => k)) ?_
  refine sh_cp (fun w Z k => sh_aload_n dc_Hall_keepOrder_10 rfl rfl k) ?_
  refine sh_cinstY (20 + s) dc_Hall_keepOrder_11 wd_290 (cw_ol (by omega) hk_s) rfl (Or.inl rfl) ?_
  refine sh_cp (fun w Z k => sh_if_eq (tgt := 25) dc_Hall_keepOrder_14 (by decide) (fun z => absurd z (by decide)) (fun _ => k)) ?_
  refine sh_cp (fun w Z k => sh_aload_n dc_Hall_keepOrder_17 rfl rfl k) ?_
  refine sh_cp (fun w Z k => sh_aload_n dc_Hall_keepOrder_18 rfl rfl k) ?_
  refine sh_ccall (fun w hw => sh_virtU (As := [.ref (A (10 + t))]) dc_Hall_keepOrder_19 lm_Lock_holdOf wd_502 wd_503 (Or.inl wd_504) ⟨by decide, by decide⟩ (by decide +kernel) wd_808 wd_506 rfl rfl (Nat.le_of_ble_eq_true rfl) (hw _ _ (cw_ol (by omega) hk_s)) rfl) (ct_Lock_holdOf_2 (t := t) (s := s) (u13_1 := u13_19) (by omega) (by omega) hk_s (by omega) c2_19 c3_19) ⟨(Nat.le_of_ble_eq_true rfl), (Nat.le_of_ble_eq_true rfl), (Nat.le_of_ble_eq_true rfl), (Nat.le_of_ble_eq_true rfl)⟩ ?_
  show sh_cW _ _ (_, _, [.int (K 14 s)]) K L _ _ _ _ _
  refine sh_cp (fun w Z k => sh_if_le (tgt := 26) dc_Hall_keepOrder_22 (by decide) (fun _ => k) (fun z => absurd c4_22 z)) ?_
  refine sh_cp (fun w Z k => sh_aload_n dc_Hall_keepOrder_26 rfl rfl k) ?_
  refine sh_cp (fun w Z k => sh_aload_n dc_Hall_keepOrder_27 rfl rfl k) ?_
  refine sh_ccall (fun w hw => sh_virt (As := [.ref (A (10 + t))]) dc_Hall_keepOrder_28 lm_Hall_locksOwnedBy ln_Hall_276 wd_513 wd_8 rfl rfl (Nat.le_of_ble_eq_true rfl) (hw _ _ cw_o0) rfl) (cl_locksOwnedBy (t := t) (by omega) ho) ⟨(Nat.le_of_ble_eq_true rfl), (Nat.le_of_ble_eq_true rfl), (Nat.le_of_ble_eq_true rfl), (Nat.le_of_ble_eq_true rfl)⟩ ?_
  show sh_cW _ _ (_, _, [.int (sp_own K t)]) K L _ _ _ _ _
  refine sh_cp (fun w Z k => sh_istore dc_Hall_keepOrder_31 (by decide) k) ?_
  refine sh_cp (fun w Z k => sh_aload_n dc_Hall_keepOrder_33 rfl rfl k) ?_
  refine sh_cget 0 2 dc_Hall_keepOrder_34 cw_o0 rfl (by decide) fl_Hall_27 rfl rfl rfl rfl ?_
  refine sh_cp (fun w Z k => sh_iload_n dc_Hall_keepOrder_37 rfl rfl k) ?_
  refine sh_cp (fun w Z k => sh_iload dc_Hall_keepOrder_38 rfl k) ?_
  refine sh_ccall (fun w hw => sh_virt (As := [.int (nI s), .int (sp_own K t)]) dc_Hall_keepOrder_40 lm_LockOrder_isBeforeAny ln_Hall_279 wd_517 wd_9 rfl rfl (Nat.le_of_ble_eq_true rfl) (hw _ _ cw_o3) rfl) (cl_isBefore (j := s) (x := sp_own K t) (by omega)) ⟨(Nat.le_of_ble_eq_true rfl), (Nat.le_of_ble_eq_true rfl), (Nat.le_of_ble_eq_true rfl), (Nat.le_of_ble_eq_true rfl)⟩ ?_
  show sh_cW _ _ (_, _, [.int (sp_b (sp_bef K s (sp_own K t)))]) K L _ _ _ _ _
  refine sh_cp (fun w Z k => sh_if_eq (tgt := 81) dc_Hall_keepOrder_43 (by decide) (fun _ => k) (fun z => absurd c5_43 z)) ?_
  refine sh_cp (fun w Z k => sh_aload_n dc_Hall_keepOrder_81 rfl rfl k) ?_
  refine sh_cget 0 2 dc_Hall_keepOrder_82 cw_o0 rfl (by decide) fl_Hall_27 rfl rfl rfl rfl ?_
  refine sh_cp (fun w Z k => sh_iload dc_Hall_keepOrder_85 rfl k) ?_
  refine sh_cp (fun w Z k => sh_iload_n dc_Hall_keepOrder_87 rfl rfl k) ?_
  refine sh_ccall (fun w hw => sh_virt (As := [.int (sp_own K t), .int (nI s)]) dc_Hall_keepOrder_88 lm_LockOrder_putBefore ln_Hall_285 wd_526 wd_11 rfl rfl (Nat.le_of_ble_eq_true rfl) (hw _ _ cw_o3) rfl) (cl_putBefore (x := sp_own K t) (j := s)) ⟨(Nat.le_of_ble_eq_true rfl), (Nat.le_of_ble_eq_true rfl), (Nat.le_of_ble_eq_true rfl), (Nat.le_of_ble_eq_true rfl)⟩ ?_
  show sh_cW _ _ (_, _, []) (sp_put K (sp_own K t) s) L _ _ _ _ _
  exact sh_ce (fun w => sh_return dc_Hall_keepOrder_91 rfl (by decide) (by decide))
theorem ct_Hall_keepOrder_Lock_6 {A : Nat → Nat} {K : sh_II} {L : sh_DD} {t : Nat} {s : Nat} {u13_19 : Nat} (ht : t < 6) (hs : s < 8) (ho : cw_okr K) (hk_s : cw_cl (K 12 s) = 4) (c0_7 : ¬ (K 24 0) = 0) (hu13_19 : u13_19 < 6) (c2_19 : (K 13 s) = nI u13_19) (c3_19 : u13_19 = t) (c4_22 : (K 14 s) ≤ 0) (c5_43 : ¬ (sp_b (sp_bef K s (sp_own K t))) = 0) (c6_67 : (K 24 0) = 2) : sh_cM A md_Hall_keepOrder [.ref (A 0), .ref (A (10 + t)), .ref (A (20 + s)), .int (nI s)] K L (.inr 4) (sh_u2 K 25 0 ((K 25 0) + 1)) L := by
  refine sh_cp (fun w Z k => sh_aload_n dc_Hall_keepOrder_0 rfl rfl k) ?_
  refine sh_cget 0 2 dc_Hall_keepOrder_1 cw_o0 rfl (by decide) fl_Hall_27 rfl rfl rfl rfl ?_
  refine sh_cget 3 1 dc_Hall_keepOrder_4 cw_o3 rfl (by decide) fl_Hall_193 rfl rfl rfl rfl ?_
  refine sh_cp (fun w Z k => sh_if_eq (tgt := 25) dc_Hall_keepOrder_7 (by decide) (fun z => absurd z c0_7) (fun _ => k)) ?_
  refine sh_cp (fun w Z k => sh_aload_n dc_Hall_keepOrder_10 rfl rfl k) ?_
  refine sh_cinstY (20 + s) dc_Hall_keepOrder_11 wd_290 (cw_ol (by omega) hk_s) rfl (Or.inl rfl) ?_
  refine sh_cp (fun w Z k => sh_if_eq (tgt := 25) dc_Hall_keepOrder_14 (by decide) (fun z => absurd z (by decide)) (fun _ => k)) ?_
  refine sh_cp (fun w Z k => sh_aload_n dc_Hall_keepOrder_17 rfl rfl k) ?_
  refine sh_cp (fun w Z k => sh_aload_n dc_Hall_keepOrder_18 rfl rfl k) ?_
  refine sh_ccall (fun w hw => sh_virtU (As := [.ref (A (10 + t))]) dc_Hall_keepOrder_19 lm_Lock_holdOf wd_502 wd_503 (Or.inl wd_504) ⟨by decide, by decide⟩ (by decide +kernel) wd_808 wd_506 rfl rfl (Nat.le_of_ble_eq_true rfl) (hw _ _ (cw_ol (by omega) hk_s)) rfl) (ct_Lock_holdOf_2 (t := t) (s := s) (u13_1 := u13_19) (by omega) (by omega) hk_s (by omega) c2_19 c3_19) ⟨(Nat.le_of_ble_eq_true rfl), (Nat.le_of_ble_eq_true rfl), (Nat.le_of_ble_eq_true rfl), (Nat.le_of_ble_eq_true rfl)⟩ ?_
  show sh_cW _ _ (_, _, [.int (K 14 s)]) K L _ _ _ _ _
  refine sh_cp (fun w Z k => sh_if_le (tgt := 26) dc_Hall_keepOrder_22 (by decide) (fun _ => k) (fun z => absurd c4_22 z)) ?_
  refine sh_cp (fun w Z k => sh_aload_n dc_Hall_keepOrder_26 rfl rfl k) ?_
  refine sh_cp (fun w Z k => sh_aload_n dc_Hall_keepOrder_27 rfl rfl k) ?_
  refine sh_ccall (fun w hw => sh_virt (As := [.ref (A (10 + t))]) dc_Hall_keepOrder_28 lm_Hall_locksOwnedBy ln_Hall_276 wd_513 wd_8 rfl rfl (Nat.le_of_ble_eq_true rfl) (hw _ _ cw_o0) rfl) (cl_locksOwnedBy (t := t) (by omega) ho) ⟨(Nat.le_of_ble_eq_true rfl), (Nat.le_of_ble_eq_true rfl), (Nat.le_of_ble_eq_true rfl), (Nat.le_of_ble_eq_true rfl)⟩ ?_
  show sh_cW _ _ (_, _, [.int (sp_own K t)]) K L _ _ _ _ _
  refine sh_cp (fun w Z k => sh_istore dc_Hall_keepOrder_31 (by decide) k) ?_
  refine sh_cp (fun w Z k => sh_aload_n dc_Hall_keepOrder_33 rfl rfl k) ?_
  refine sh_cget 0 2 dc_Hall_keepOrder_34 cw_o0 rfl (by decide) fl_Hall_27 rfl rfl rfl rfl ?_
  refine sh_cp (fun w Z k => sh_iload_n dc_Hall_keepOrder_37 rfl rfl k) ?_
  refine sh_cp (fun w Z k => sh_iload dc_Hall_keepOrder_38 rfl k) ?_
  refine sh_ccall (fun w hw => sh_virt (As := [.int (nI s), .int (sp_own K t)]) dc_Hall_keepOrder_40 lm_LockOrder_isBeforeAny ln_Hall_279 wd_517 wd_9 rfl rfl (Nat.le_of_ble_eq_true rfl) (hw _ _ cw_o3) rfl) (cl_isBefore (j := s) (x := sp_own K t) (by omega)) ⟨(Nat.le_of_ble_eq_true rfl), (Nat.le_of_ble_eq_true rfl), (Nat.le_of_ble_eq_true rfl), (Nat.le_of_ble_eq_true rfl)⟩ ?_
  show sh_cW _ _ (_, _, [.int (sp_b (sp_bef K s (sp_own K t)))]) K L _ _ _ _ _
  refine sh_cp (fun w Z k => sh_if_eq (tgt := 81) dc_Hall_keepOrder_43 (by decide) (fun z => absurd z c5_43) (fun _ => k)) ?_
  refine sh_cp (fun w Z k => sh_aload_n dc_Hall_keepOrder_46 rfl rfl k) ?_
  refine sh_cget 0 2 dc_Hall_keepOrder_47 cw_o0 rfl (by decide) fl_Hall_27 rfl rfl rfl rfl ?_
  refine sh_cp (fun w Z k => sh_dup dc_Hall_keepOrder_50 rfl k) ?_
  refine sh_cget 3 2 dc_Hall_keepOrder_51 cw_o3 rfl (by decide) fl_Hall_196 rfl rfl rfl rfl ?_
  refine sh_cp (fun w Z k => sh_iconst (v := 1) dc_Hall_keepOrder_54 (by decide) k) ?_
  refine sh_cp (fun w Z k => sh_iadd dc_Hall_keepOrder_55 k) ?_
  refine sh_cput (K1 := (sh_u2 K 25 0 ((K 25 0) + 1))) (L1 := L) 3 2 dc_Hall_keepOrder_56 cw_o3 rfl (by decide) fl_Hall_196 rfl rfl rfl rfl pd_I rfl rfl (cq_LockOrder_25 ) (fun i hi => cw_upI (by decide) hi) ?_
  refine sh_cp (fun w Z k => sh_aload_n dc_Hall_keepOrder_59 rfl rfl k) ?_
  refine sh_cget 0 2 dc_Hall_keepOrder_60 cw_o0 rfl (by decide) fl_Hall_27 rfl rfl rfl rfl ?_
  refine sh_cget 3 1 dc_Hall_keepOrder_63 cw_o3 rfl (by decide) fl_Hall_193 rfl rfl rfl rfl ?_
  refine sh_cti (show (sh_u2 K 25 0 ((K 25 0) + 1)) 24 0 = K 24 0 from (sh_u2_row (by decide) _)) ?_
  refine sh_cp (fun w Z k => sh_iconst (v := 2) dc_Hall_keepOrder_66 (by decide) k) ?_
  refine sh_cp (fun w Z k => sh_icmp_ne (tgt := 81) dc_Hall_keepOrder_67 (by decide) (fun z => absurd c6_67 z) (fun _ => k)) ?_
  exact sh_ct (fun w => sh_thr (lx := 3) (tx := "the lock comes before one that is owned") dc_Hall_keepOrder_70 dc_Hall_keepOrder_73 (Or.inr ⟨dc_Hall_keepOrder_74, rfl⟩) dc_Hall_keepOrder_77 dc_Hall_keepOrder_80 lx_Hall_243_247 (by decide +kernel) rfl (by decide) (by decide) (by decide) (by decide))
theorem ct_Hall_keepOrder_Lock_7 {A : Nat → Nat} {K : sh_II} {L : sh_DD} {t : Nat} {s : Nat} {u13_19 : Nat} (ht : t < 6) (hs : s < 8) (ho : cw_okr K) (hk_s : cw_cl (K 12 s) = 4) (c0_7 : ¬ (K 24 0) = 0) (hu13_19 : u13_19 < 6) (c2_19 : (K 13 s) = nI u13_19) (c3_19 : u13_19 = t) (c4_22 : (K 14 s) ≤ 0) (c5_43 : ¬ (sp_b (sp_bef K s (sp_own K t))) = 0) (c6_67 : ¬ (K 24 0) = 2) : sh_cM A md_Hall_keepOrder [.ref (A 0), .ref (A (10 + t)), .ref (A (20 + s)), .int (nI s)] K L (.inl none) (sp_put (sh_u2 K 25 0 ((K 25 0) + 1)) (sp_own K t) s) L := by
  refine sh_cp (fun w Z k => sh_aload_n dc_Hall_keepOrder_0 rfl rfl k) ?_
  refine sh_cget 0 2 dc_Hall_keepOrder_1 cw_o0 rfl (by decide) fl_Hall_27 rfl rfl rfl rfl ?_
  refine sh_cget 3 1 dc_Hall_keepOrder_4 cw_o3 rfl (by decide) fl_Hall_193 rfl rfl rfl rfl ?_
  refine sh_cp (fun w Z k => sh_if_eq (tgt := 25) dc_Hall_keepOrder_7 (by decide) (fun z => absurd z c0_7) (fun _ => k)) ?_
  refine sh_cp (fun w Z k => sh_aload_n dc_Hall_keepOrder_10 rfl rfl k) ?_
  refine sh_cinstY (20 + s) dc_Hall_keepOrder_11 wd_290 (cw_ol (by omega) hk_s) rfl (Or.inl rfl) ?_
  refine sh_cp (fun w Z k => sh_if_eq (tgt := 25) dc_Hall_keepOrder_14 (by decide) (fun z => absurd z (by decide)) (fun _ => k)) ?_
  refine sh_cp (fun w Z k => sh_aload_n dc_Hall_keepOrder_17 rfl rfl k) ?_
  refine sh_cp (fun w Z k => sh_aload_n dc_Hall_keepOrder_18 rfl rfl k) ?_
  refine sh_ccall (fun w hw => sh_virtU (As := [.ref (A (10 + t))]) dc_Hall_keepOrder_19 lm_Lock_holdOf wd_502 wd_503 (Or.inl wd_504) ⟨by decide, by decide⟩ (by decide +kernel) wd_808 wd_506 rfl rfl (Nat.le_of_ble_eq_true rfl) (hw _ _ (cw_ol (by omega) hk_s)) rfl) (ct_Lock_holdOf_2 (t := t) (s := s) (u13_1 := u13_19) (by omega) (by omega) hk_s (by omega) c2_19 c3_19) ⟨(Nat.le_of_ble_eq_true rfl), (Nat.le_of_ble_eq_true rfl), (Nat.le_of_ble_eq_true rfl), (Nat.le_of_ble_eq_true rfl)⟩ ?_
  show sh_cW _ _ (_, _, [.int (K 14 s)]) K L _ _ _ _ _
  refine sh_cp (fun w Z k => sh_if_le (tgt := 26) dc_Hall_keepOrder_22 (by decide) (fun _ => k) (fun z => absurd c4_22 z)) ?_
  refine sh_cp (fun w Z k => sh_aload_n dc_Hall_keepOrder_26 rfl rfl k) ?_
  refine sh_cp (fun w Z k => sh_aload_n dc_Hall_keepOrder_27 rfl rfl k) ?_
  refine sh_ccall (fun w hw => sh_virt (As := [.ref (A (10 + t))]) dc_Hall_keepOrder_28 lm_Hall_locksOwnedBy ln_Hall_276 wd_513 wd_8 rfl rfl (Nat.le_of_ble_eq_true rfl) (hw _ _ cw_o0) rfl) (cl_locksOwnedBy (t := t) (by omega) ho) ⟨(Nat.le_of_ble_eq_true rfl), (Nat.le_of_ble_eq_true rfl), (Nat.le_of_ble_eq_true rfl), (Nat.le_of_ble_eq_true rfl)⟩ ?_
  show sh_cW _ _ (_, _, [.int (sp_own K t)]) K L _ _ _ _ _
  refine sh_cp (fun w Z k => sh_istore dc_Hall_keepOrder_31 (by decide) k) ?_
  refine sh_cp (fun w Z k => sh_aload_n dc_Hall_keepOrder_33 rfl rfl k) ?_
  refine sh_cget 0 2 dc_Hall_keepOrder_34 cw_o0 rfl (by decide) fl_Hall_27 rfl rfl rfl rfl ?_
  refine sh_cp (fun w Z k => sh_iload_n dc_Hall_keepOrder_37 rfl rfl k) ?_
  refine sh_cp (fun w Z k => sh_iload dc_Hall_keepOrder_38 rfl k) ?_
  refine sh_ccall (fun w hw => sh_virt (As := [.int (nI s), .int (sp_own K t)]) dc_Hall_keepOrder_40 lm_LockOrder_isBeforeAny ln_Hall_279 wd_517 wd_9 rfl rfl (Nat.le_of_ble_eq_true rfl) (hw _ _ cw_o3) rfl) (cl_isBefore (j := s) (x := sp_own K t) (by omega)) ⟨(Nat.le_of_ble_eq_true rfl), (Nat.le_of_ble_eq_true rfl), (Nat.le_of_ble_eq_true rfl), (Nat.le_of_ble_eq_true rfl)⟩ ?_
  show sh_cW _ _ (_, _, [.int (sp_b (sp_bef K s (sp_own K t)))]) K L _ _ _ _ _
  refine sh_cp (fun w Z k => sh_if_eq (tgt := 81) dc_Hall_keepOrder_43 (by decide) (fun z => absurd z c5_43) (fun _ => k)) ?_
  refine sh_cp (fun w Z k => sh_aload_n dc_Hall_keepOrder_46 rfl rfl k) ?_
  refine sh_cget 0 2 dc_Hall_keepOrder_47 cw_o0 rfl (by decide) fl_Hall_27 rfl rfl rfl rfl ?_
  refine sh_cp (fun w Z k => sh_dup dc_Hall_keepOrder_50 rfl k) ?_
  refine sh_cget 3 2 dc_Hall_keepOrder_51 cw_o3 rfl (by decide) fl_Hall_196 rfl rfl rfl rfl ?_
  refine sh_cp (fun w Z k => sh_iconst (v := 1) dc_Hall_keepOrder_54 (by decide) k) ?_
  refine sh_cp (fun w Z k => sh_iadd dc_Hall_keepOrder_55 k) ?_
  refine sh_cput (K1 := (sh_u2 K 25 0 ((K 25 0) + 1))) (L1 := L) 3 2 dc_Hall_keepOrder_56 cw_o3 rfl (by decide) fl_Hall_196 rfl rfl rfl rfl pd_I rfl rfl (cq_LockOrder_25 ) (fun i hi => cw_upI (by decide) hi) ?_
  refine sh_cp (fun w Z k => sh_aload_n dc_Hall_keepOrder_59 rfl rfl k) ?_
  refine sh_cget 0 2 dc_Hall_keepOrder_60 cw_o0 rfl (by decide) fl_Hall_27 rfl rfl rfl rfl ?_
  refine sh_cget 3 1 dc_Hall_keepOrder_63 cw_o3 rfl (by decide) fl_Hall_193 rfl rfl rfl rfl ?_
  refine sh_cti (show (sh_u2 K 25 0 ((K 25 0) + 1)) 24 0 = K 24 0 from (sh_u2_row (by decide) _)) ?_
  refine sh_cp (fun w Z k => sh_iconst (v := 2) dc_Hall_keepOrder_66 (by decide) k) ?_
  refine sh_cp (fun w Z k => sh_icmp_ne (tgt := 81) dc_Hall_keepOrder_67 (by decide) (fun _ => k) (fun z => absurd z c6_67)) ?_
  refine sh_cp (fun w Z k => sh_aload_n dc_Hall_keepOrder_81 rfl rfl k) ?_
  refine sh_cget 0 2 dc_Hall_keepOrder_82 cw_o0 rfl (by decide) fl_Hall_27 rfl rfl rfl rfl ?_
  refine sh_cp (fun w Z k => sh_iload dc_Hall_keepOrder_85 rfl k) ?_
  refine sh_cp (fun w Z k => sh_iload_n dc_Hall_keepOrder_87 rfl rfl k) ?_
  refine sh_ccall (fun w hw => sh_virt (As := [.int (sp_own K t), .int (nI s)]) dc_Hall_keepOrder_88 lm_LockOrder_putBefore ln_Hall_285 wd_526 wd_11 rfl rfl (Nat.le_of_ble_eq_true rfl) (hw _ _ cw_o3) rfl) (cl_putBefore (x := sp_own K t) (j := s)) ⟨(Nat.le_of_ble_eq_true rfl), (Nat.le_of_ble_eq_true rfl), (Nat.le_of_ble_eq_true rfl), (Nat.le_of_ble_eq_true rfl)⟩ ?_
  show sh_cW _ _ (_, _, []) (sp_put (sh_u2 K 25 0 ((K 25 0) + 1)) (sp_own K t) s) L _ _ _ _ _
  exact sh_ce (fun w => sh_return dc_Hall_keepOrder_91 rfl (by decide) (by decide))
theorem ct_Hall_keepOrder_Lock_8 {A : Nat → Nat} {K : sh_II} {L : sh_DD} {t : Nat} {s : Nat} {u13_19 : Nat} (ht : t < 6) (hs : s < 8) (ho : cw_okr K) (hk_s : cw_cl (K 12 s) = 4) (c0_7 : ¬ (K 24 0) = 0) (hu13_19 : u13_19 < 6) (c2_19 : (K 13 s) = nI u13_19) (c3_19 : u13_19 = t) (c4_22 : ¬ (K 14 s) ≤ 0) : sh_cM A md_Hall_keepOrder [.ref (A 0), .ref (A (10 + t)), .ref (A (20 + s)), .int (nI s)] K L (.inl none) K L := by
  refine sh_cp (fun w Z k => sh_aload_n dc_Hall_keepOrder_0 rfl rfl k) ?_
  refine sh_cget 0 2 dc_Hall_keepOrder_1 cw_o0 rfl (by decide) fl_Hall_27 rfl rfl rfl rfl ?_
  refine sh_cget 3 1 dc_Hall_keepOrder_4 cw_o3 rfl (by decide) fl_Hall_193 rfl rfl rfl rfl ?_
  refine sh_cp (fun w Z k => sh_if_eq (tgt := 25) dc_Hall_keepOrder_7 (by decide) (fun z => absurd z c0_7) (fun _ => k)) ?_
  refine sh_cp (fun w Z k => sh_aload_n dc_Hall_keepOrder_10 rfl rfl k) ?_
  refine sh_cinstY (20 + s) dc_Hall_keepOrder_11 wd_290 (cw_ol (by omega) hk_s) rfl (Or.inl rfl) ?_
  refine sh_cp (fun w Z k => sh_if_eq (tgt := 25) dc_Hall_keepOrder_14 (by decide) (fun z => absurd z (by decide)) (fun _ => k)) ?_
  refine sh_cp (fun w Z k => sh_aload_n dc_Hall_keepOrder_17 rfl rfl k) ?_
  refine sh_cp (fun w Z k => sh_aload_n dc_Hall_keepOrder_18 rfl rfl k) ?_
  refine sh_ccall (fun w hw => sh_virtU (As := [.ref (A (10 + t))]) dc_Hall_keepOrder_19 lm_Lock_holdOf wd_502 wd_503 (Or.inl wd_504) ⟨by decide, by decide⟩ (by decide +kernel) wd_808 wd_506 rfl rfl (Nat.le_of_ble_eq_true rfl) (hw _ _ (cw_ol (by omega) hk_s)) rfl) (ct_Lock_holdOf_2 (t := t) (s := s) (u13_1 := u13_19) (by omega) (by omega) hk_s (by omega) c2_19 c3_19) ⟨(Nat.le_of_ble_eq_true rfl), (Nat.le_of_ble_eq_true rfl), (Nat.le_of_ble_eq_true rfl), (Nat.le_of_ble_eq_true rfl)⟩ ?_
  show sh_cW _ _ (_, _, [.int (K 14 s)]) K L _ _ _ _ _
  refine sh_cp (fun w Z k => sh_if_le (tgt := 26) dc_Hall_keepOrder_22 (by decide) (fun z => absurd z c4_22) (fun _ => k)) ?_
  exact sh_ce (fun w => sh_return dc_Hall_keepOrder_25 rfl (by decide) (by decide))
theorem ct_Hall_keepOrder_Lock_9 {A : Nat → Nat} {K : sh_II} {L : sh_DD} {t : Nat} {s : Nat} {u13_19 : Nat} (ht : t < 6) (hs : s < 8) (ho : cw_okr K) (hk_s : cw_cl (K 12 s) = 4) (c0_7 : ¬ (K 24 0) = 0) (hu13_19 : u13_19 < 6) (c2_19 : (K 13 s) = nI u13_19) (c3_19 : ¬ u13_19 = t) (c4_43 : (sp_b (sp_bef K s (sp_own K t))) = 0) : sh_cM A md_Hall_keepOrder [.ref (A 0), .ref (A (10 + t)), .ref (A (20 + s)), .int (nI s)] K L (.inl none) (sp_put K (sp_own K t) s) L := by
  refine sh_cp (fun w Z k => sh_aload_n dc_Hall_keepOrder_0 rfl rfl k) ?_
  refine sh_cget 0 2 dc_Hall_keepOrder_1 cw_o0 rfl (by decide) fl_Hall_27 rfl rfl rfl rfl ?_
  refine sh_cget 3 1 dc_Hall_keepOrder_4 cw_o3 rfl (by decide) fl_Hall_193 rfl rfl rfl rfl ?_
  refine sh_cp (fun w Z k => sh_if_eq (tgt := 25) dc_Hall_keepOrder_7 (by decide) (fun z => absurd z c0_7) (fun _ => k)) ?_
  refine sh_cp (fun w Z k => sh_aload_n dc_Hall_keepOrder_10 rfl rfl k) ?_
  refine sh_cinstY (20 + s) dc_Hall_keepOrder_11 wd_290 (cw_ol (by omega) hk_s) rfl (Or.inl rfl) ?_
  refine sh_cp (fun w Z k => sh_if_eq (tgt := 25) dc_Hall_keepOrder_14 (by decide) (fun z => absurd z (by decide)) (fun _ => k)) ?_
  refine sh_cp (fun w Z k => sh_aload_n dc_Hall_keepOrder_17 rfl rfl k) ?_
  refine sh_cp (fun w Z k => sh_aload_n dc_Hall_keepOrder_18 rfl rfl k) ?_
  refine sh_ccall (fun w hw => sh_virtU (As := [.ref (A (10 + t))]) dc_Hall_keepOrder_19 lm_Lock_holdOf wd_502 wd_503 (Or.inl wd_504) ⟨by decide, by decide⟩ (by decide +kernel) wd_808 wd_506 rfl rfl (Nat.le_of_ble_eq_true rfl) (hw _ _ (cw_ol (by omega) hk_s)) rfl) (ct_Lock_holdOf_3 (t := t) (s := s) (u13_1 := u13_19) (by omega) (by omega) hk_s (by omega) c2_19 c3_19) ⟨(Nat.le_of_ble_eq_true rfl), (Nat.le_of_ble_eq_true rfl), (Nat.le_of_ble_eq_true rfl), (Nat.le_of_ble_eq_true rfl)⟩ ?_
  show sh_cW _ _ (_, _, [.int 0]) K L _ _ _ _ _
  refine sh_cp (fun w Z k => sh_if_le (tgt := 26) dc_Hall_keepOrder_22 (by decide) (fun _ => k) (fun z => absurd (by decide) z)) ?_
  refine sh_cp (fun w Z k => sh_aload_n dc_Hall_keepOrder_26 rfl rfl k) ?_
  refine sh_cp (fun w Z k => sh_aload_n dc_Hall_keepOrder_27 rfl rfl k) ?_
  refine sh_ccall (fun w hw => sh_virt (As := [.ref (A (10 + t))]) dc_Hall_keepOrder_28 lm_Hall_locksOwnedBy ln_Hall_276 wd_513 wd_8 rfl rfl (Nat.le_of_ble_eq_true rfl) (hw _ _ cw_o0) rfl) (cl_locksOwnedBy (t := t) (by omega) ho) ⟨(Nat.le_of_ble_eq_true rfl), (Nat.le_of_ble_eq_true rfl), (Nat.le_of_ble_eq_true rfl), (Nat.le_of_ble_eq_true rfl)⟩ ?_
  show sh_cW _ _ (_, _, [.int (sp_own K t)]) K L _ _ _ _ _
  refine sh_cp (fun w Z k => sh_istore dc_Hall_keepOrder_31 (by decide) k) ?_
  refine sh_cp (fun w Z k => sh_aload_n dc_Hall_keepOrder_33 rfl rfl k) ?_
  refine sh_cget 0 2 dc_Hall_keepOrder_34 cw_o0 rfl (by decide) fl_Hall_27 rfl rfl rfl rfl ?_
  refine sh_cp (fun w Z k => sh_iload_n dc_Hall_keepOrder_37 rfl rfl k) ?_
  refine sh_cp (fun w Z k => sh_iload dc_Hall_keepOrder_38 rfl k) ?_
  refine sh_ccall (fun w hw => sh_virt (As := [.int (nI s), .int (sp_own K t)]) dc_Hall_keepOrder_40 lm_LockOrder_isBeforeAny ln_Hall_279 wd_517 wd_9 rfl rfl (Nat.le_of_ble_eq_true rfl) (hw _ _ cw_o3) rfl) (cl_isBefore (j := s) (x := sp_own K t) (by omega)) ⟨(Nat.le_of_ble_eq_true rfl), (Nat.le_of_ble_eq_true rfl), (Nat.le_of_ble_eq_true rfl), (Nat.le_of_ble_eq_true rfl)⟩ ?_
  show sh_cW _ _ (_, _, [.int (sp_b (sp_bef K s (sp_own K t)))]) K L _ _ _ _ _
  refine sh_cp (fun w Z k => sh_if_eq (tgt := 81) dc_Hall_keepOrder_43 (by decide) (fun _ => k) (fun z => absurd c4_43 z)) ?_
  refine sh_cp (fun w Z k => sh_aload_n dc_Hall_keepOrder_81 rfl rfl k) ?_
  refine sh_cget 0 2 dc_Hall_keepOrder_82 cw_o0 rfl (by decide) fl_Hall_27 rfl rfl rfl rfl ?_
  refine sh_cp (fun w Z k => sh_iload dc_Hall_keepOrder_85 rfl k) ?_
  refine sh_cp (fun w Z k => sh_iload_n dc_Hall_keepOrder_87 rfl rfl k) ?_
  refine sh_ccall (fun w hw => sh_virt (As := [.int (sp_own K t), .int (nI s)]) dc_Hall_keepOrder_88 lm_LockOrder_putBefore ln_Hall_285 wd_526 wd_11 rfl rfl (Nat.le_of_ble_eq_true rfl) (hw _ _ cw_o3) rfl) (cl_putBefore (x := sp_own K t) (j := s)) ⟨(Nat.le_of_ble_eq_true rfl), (Nat.le_of_ble_eq_true rfl), (Nat.le_of_ble_eq_true rfl), (Nat.le_of_ble_eq_true rfl)⟩ ?_
  show sh_cW _ _ (_, _, []) (sp_put K (sp_own K t) s) L _ _ _ _ _
  exact sh_ce (fun w => sh_return dc_Hall_keepOrder_91 rfl (by decide) (by decide))
theorem ct_Hall_keepOrder_Lock_10 {A : Nat → Nat} {K : sh_II} {L : sh_DD} {t : Nat} {s : Nat} {u13_19 : Nat} (ht : t < 6) (hs : s < 8) (ho : cw_okr K) (hk_s : cw_cl (K 12 s) = 4) (c0_7 : ¬ (K 24 0) = 0) (hu13_19 : u13_19 < 6) (c2_19 : (K 13 s) = nI u13_19) (c3_19 : ¬ u13_19 = t) (c4_43 : ¬ (sp_b (sp_bef K s (sp_own K t))) = 0) (c5_67 : (K 24 0) = 2) : sh_cM A md_Hall_keepOrder [.ref (A 0), .ref (A (10 + t)), .ref (A (20 + s)), .int (nI s)] K L (.inr 4) (sh_u2 K 25 0 ((K 25 0) + 1)) L := by
  refine sh_cp (fun w Z k => sh_aload_n dc_Hall_keepOrder_0 rfl rfl k) ?_
  refine sh_cget 0 2 dc_Hall_keepOrder_1 cw_o0 rfl (by decide) fl_Hall_27 rfl rfl rfl rfl ?_
  refine sh_cget 3 1 dc_Hall_keepOrder_4 cw_o3 rfl (by decide) fl_Hall_193 rfl rfl rfl rfl ?_
  refine sh_cp (fun w Z k => sh_if_eq (tgt := 25) dc_Hall_keepOrder_7 (by decide) (fun z => absurd z c0_7) (fun _ => k)) ?_
  refine sh_cp (fun w Z k => sh_aload_n dc_Hall_keepOrder_10 rfl rfl k) ?_
  refine sh_cinstY (20 + s) dc_Hall_keepOrder_11 wd_290 (cw_ol (by omega) hk_s) rfl (Or.inl rfl) ?_
  refine sh_cp (fun w Z k => sh_if_eq (tgt := 25) dc_Hall_keepOrder_14 (by decide) (fun z => absurd z (by decide)) (fun _ => k)) ?_
  refine sh_cp (fun w Z k => sh_aload_n dc_Hall_keepOrder_17 rfl rfl k) ?_
  refine sh_cp (fun w Z k => sh_aload_n dc_Hall_keepOrder_18 rfl rfl k) ?_
  refine sh_ccall (fun w hw => sh_virtU (As := [.ref (A (10 + t))]) dc_Hall_keepOrder_19 lm_Lock_holdOf wd_502 wd_503 (Or.inl wd_504) ⟨by decide, by decide⟩ (by decide +kernel) wd_808 wd_506 rfl rfl (Nat.le_of_ble_eq_true rfl) (hw _ _ (cw_ol (by omega) hk_s)) rfl) (ct_Lock_holdOf_3 (t := t) (s := s) (u13_1 := u13_19) (by omega) (by omega) hk_s (by omega) c2_19 c3_19) ⟨(Nat.le_of_ble_eq_true rfl), (Nat.le_of_ble_eq_true rfl), (Nat.le_of_ble_eq_true rfl), (Nat.le_of_ble_eq_true rfl)⟩ ?_
  show sh_cW _ _ (_, _, [.int 0]) K L _ _ _ _ _
  refine sh_cp (fun w Z k => sh_if_le (tgt := 26) dc_Hall_keepOrder_22 (by decide) (fun _ => k) (fun z => absurd (by decide) z)) ?_
  refine sh_cp (fun w Z k => sh_aload_n dc_Hall_keepOrder_26 rfl rfl k) ?_
  refine sh_cp (fun w Z k => sh_aload_n dc_Hall_keepOrder_27 rfl rfl k) ?_
  refine sh_ccall (fun w hw => sh_virt (As := [.ref (A (10 + t))]) dc_Hall_keepOrder_28 lm_Hall_locksOwnedBy ln_Hall_276 wd_513 wd_8 rfl rfl (Nat.le_of_ble_eq_true rfl) (hw _ _ cw_o0) rfl) (cl_locksOwnedBy (t := t) (by omega) ho) ⟨(Nat.le_of_ble_eq_true rfl), (Nat.le_of_ble_eq_true rfl), (Nat.le_of_ble_eq_true rfl), (Nat.le_of_ble_eq_true rfl)⟩ ?_
  show sh_cW _ _ (_, _, [.int (sp_own K t)]) K L _ _ _ _ _
  refine sh_cp (fun w Z k => sh_istore dc_Hall_keepOrder_31 (by decide) k) ?_
  refine sh_cp (fun w Z k => sh_aload_n dc_Hall_keepOrder_33 rfl rfl k) ?_
  refine sh_cget 0 2 dc_Hall_keepOrder_34 cw_o0 rfl (by decide) fl_Hall_27 rfl rfl rfl rfl ?_
  refine sh_cp (fun w Z k => sh_iload_n dc_Hall_keepOrder_37 rfl rfl k) ?_
  refine sh_cp (fun w Z k => sh_iload dc_Hall_keepOrder_38 rfl k) ?_
  refine sh_ccall (fun w hw => sh_virt (As := [.int (nI s), .int (sp_own K t)]) dc_Hall_keepOrder_40 lm_LockOrder_isBeforeAny ln_Hall_279 wd_517 wd_9 rfl rfl (Nat.le_of_ble_eq_true rfl) (hw _ _ cw_o3) rfl) (cl_isBefore (j := s) (x := sp_own K t) (by omega)) ⟨(Nat.le_of_ble_eq_true rfl), (Nat.le_of_ble_eq_true rfl), (Nat.le_of_ble_eq_true rfl), (Nat.le_of_ble_eq_true rfl)⟩ ?_
  show sh_cW _ _ (_, _, [.int (sp_b (sp_bef K s (sp_own K t)))]) K L _ _ _ _ _
  refine sh_cp (fun w Z k => sh_if_eq (tgt := 81) dc_Hall_keepOrder_43 (by decide) (fun z => absurd z c4_43) (fun _ => k)) ?_
  refine sh_cp (fun w Z k => sh_aload_n dc_Hall_keepOrder_46 rfl rfl k) ?_
  refine sh_cget 0 2 dc_Hall_keepOrder_47 cw_o0 rfl (by decide) fl_Hall_27 rfl rfl rfl rfl ?_
  refine sh_cp (fun w Z k => sh_dup dc_Hall_keepOrder_50 rfl k) ?_
  refine sh_cget 3 2 dc_Hall_keepOrder_51 cw_o3 rfl (by decide) fl_Hall_196 rfl rfl rfl rfl ?_
  refine sh_cp (fun w Z k => sh_iconst (v := 1) dc_Hall_keepOrder_54 (by decide) k) ?_
  refine sh_cp (fun w Z k => sh_iadd dc_Hall_keepOrder_55 k) ?_
  refine sh_cput (K1 := (sh_u2 K 25 0 ((K 25 0) + 1))) (L1 := L) 3 2 dc_Hall_keepOrder_56 cw_o3 rfl (by decide) fl_Hall_196 rfl rfl rfl rfl pd_I rfl rfl (cq_LockOrder_25 ) (fun i hi => cw_upI (by decide) hi) ?_
  refine sh_cp (fun w Z k => sh_aload_n dc_Hall_keepOrder_59 rfl rfl k) ?_
  refine sh_cget 0 2 dc_Hall_keepOrder_60 cw_o0 rfl (by decide) fl_Hall_27 rfl rfl rfl rfl ?_
  refine sh_cget 3 1 dc_Hall_keepOrder_63 cw_o3 rfl (by decide) fl_Hall_193 rfl rfl rfl rfl ?_
  refine sh_cti (show (sh_u2 K 25 0 ((K 25 0) + 1)) 24 0 = K 24 0 from (sh_u2_row (by decide) _)) ?_
  refine sh_cp (fun w Z k => sh_iconst (v := 2) dc_Hall_keepOrder_66 (by decide) k) ?_
  refine sh_cp (fun w Z k => sh_icmp_ne (tgt := 81) dc_Hall_keepOrder_67 (by decide) (fun z => absurd c5_67 z) (fun _ => k)) ?_
  exact sh_ct (fun w => sh_thr (lx := 3) (tx := "the lock comes before one that is owned") dc_Hall_keepOrder_70 dc_Hall_keepOrder_73 (Or.inr ⟨dc_Hall_keepOrder_74, rfl⟩) dc_Hall_keepOrder_77 dc_Hall_keepOrder_80 lx_Hall_243_247 (by decide +kernel) rfl (by decide) (by decide) (by decide) (by decide))
theorem ct_Hall_keepOrder_Lock_11 {A : Nat → Nat} {K : sh_II} {L : sh_DD} {t : Nat} {s : Nat} {u13_19 : Nat} (ht : t < 6) (hs : s < 8) (ho : cw_okr K) (hk_s : cw_cl (K 12 s) = 4) (c0_7 : ¬ (K 24 0) = 0) (hu13_19 : u13_19 < 6) (c2_19 : (K 13 s) = nI u13_19) (c3_19 : ¬ u13_19 = t) (c4_43 : ¬ (sp_b (sp_bef K s (sp_own K t))) = 0) (c5_67 : ¬ (K 24 0) = 2) : sh_cM A md_Hall_keepOrder [.ref (A 0), .ref (A (10 + t)), .ref (A (20 + s)), .int (nI s)] K L (.inl none) (sp_put (sh_u2 K 25 0 ((K 25 0) + 1)) (sp_own K t) s) L := by
  refine sh_cp (fun w Z k => sh_aload_n dc_Hall_keepOrder_0 rfl rfl k) ?_
  refine sh_cget 0 2 dc_Hall_keepOrder_1 cw_o0 rfl (by decide) fl_Hall_27 rfl rfl rfl rfl ?_
  refine sh_cget 3 1 dc_Hall_keepOrder_4 cw_o3 rfl (by decide) fl_Hall_193 rfl rfl rfl rfl ?_
  refine sh_cp (fun w Z k => sh_if_eq (tgt := 25) dc_Hall_keepOrder_7 (by decide) (fun z => absurd z c0_7) (fun _ => k)) ?_
  refine sh_cp (fun w Z k => sh_aload_n dc_Hall_keepOrder_10 rfl rfl k) ?_
  refine sh_cinstY (20 + s) dc_Hall_keepOrder_11 wd_290 (cw_ol (by omega) hk_s) rfl (Or.inl rfl) ?_
  refine sh_cp (fun w Z k => sh_if_eq (tgt := 25) dc_Hall_keepOrder_14 (by decide) (fun z => absurd z (by decide)) (fun _ => k)) ?_
  refine sh_cp (fun w Z k => sh_aload_n dc_Hall_keepOrder_17 rfl rfl k) ?_
  refine sh_cp (fun w Z k => sh_aload_n dc_Hall_keepOrder_18 rfl rfl k) ?_
  refine sh_ccall (fun w hw => sh_virtU (As := [.ref (A (10 + t))]) dc_Hall_keepOrder_19 lm_Lock_holdOf wd_502 wd_503 (Or.inl wd_504) ⟨by decide, by decide⟩ (by decide +kernel) wd_808 wd_506 rfl rfl (Nat.le_of_ble_eq_true rfl) (hw _ _ (cw_ol (by omega) hk_s)) rfl) (ct_Lock_holdOf_3 (t := t) (s := s) (u13_1 := u13_19) (by omega) (by omega) hk_s (by omega) c2_19 c3_19) ⟨(Nat.le_of_ble_eq_true rfl), (Nat.le_of_ble_eq_true rfl), (Nat.le_of_ble_eq_true rfl), (Nat.le_of_ble_eq_true rfl)⟩ ?_
  show sh_cW _ _ (_, _, [.int 0]) K L _ _ _ _ _
  refine sh_cp (fun w Z k => sh_if_le (tgt := 26) dc_Hall_keepOrder_22 (by decide) (fun _ => k) (fun z => absurd (by decide) z)) ?_
  refine sh_cp (fun w Z k => sh_aload_n dc_Hall_keepOrder_26 rfl rfl k) ?_
  refine sh_cp (fun w Z k => sh_aload_n dc_Hall_keepOrder_27 rfl rfl k) ?_
  refine sh_ccall (fun w hw => sh_virt (As := [.ref (A (10 + t))]) dc_Hall_keepOrder_28 lm_Hall_locksOwnedBy ln_Hall_276 wd_513 wd_8 rfl rfl (Nat.le_of_ble_eq_true rfl) (hw _ _ cw_o0) rfl) (cl_locksOwnedBy (t := t) (by omega) ho) ⟨(Nat.le_of_ble_eq_true rfl), (Nat.le_of_ble_eq_true rfl), (Nat.le_of_ble_eq_true rfl), (Nat.le_of_ble_eq_true rfl)⟩ ?_
  show sh_cW _ _ (_, _, [.int (sp_own K t)]) K L _ _ _ _ _
  refine sh_cp (fun w Z k => sh_istore dc_Hall_keepOrder_31 (by decide) k) ?_
  refine sh_cp (fun w Z k => sh_aload_n dc_Hall_keepOrder_33 rfl rfl k) ?_
  refine sh_cget 0 2 dc_Hall_keepOrder_34 cw_o0 rfl (by decide) fl_Hall_27 rfl rfl rfl rfl ?_
  refine sh_cp (fun w Z k => sh_iload_n dc_Hall_keepOrder_37 rfl rfl k) ?_
  refine sh_cp (fun w Z k => sh_iload dc_Hall_keepOrder_38 rfl k) ?_
  refine sh_ccall (fun w hw => sh_virt (As := [.int (nI s), .int (sp_own K t)]) dc_Hall_keepOrder_40 lm_LockOrder_isBeforeAny ln_Hall_279 wd_517 wd_9 rfl rfl (Nat.le_of_ble_eq_true rfl) (hw _ _ cw_o3) rfl) (cl_isBefore (j := s) (x := sp_own K t) (by omega)) ⟨(Nat.le_of_ble_eq_true rfl), (Nat.le_of_ble_eq_true rfl), (Nat.le_of_ble_eq_true rfl), (Nat.le_of_ble_eq_true rfl)⟩ ?_
  show sh_cW _ _ (_, _, [.int (sp_b (sp_bef K s (sp_own K t)))]) K L _ _ _ _ _
  refine sh_cp (fun w Z k => sh_if_eq (tgt := 81) dc_Hall_keepOrder_43 (by decide) (fun z => absurd z c4_43) (fun _ => k)) ?_
  refine sh_cp (fun w Z k => sh_aload_n dc_Hall_keepOrder_46 rfl rfl k) ?_
  refine sh_cget 0 2 dc_Hall_keepOrder_47 cw_o0 rfl (by decide) fl_Hall_27 rfl rfl rfl rfl ?_
  refine sh_cp (fun w Z k => sh_dup dc_Hall_keepOrder_50 rfl k) ?_
  refine sh_cget 3 2 dc_Hall_keepOrder_51 cw_o3 rfl (by decide) fl_Hall_196 rfl rfl rfl rfl ?_
  refine sh_cp (fun w Z k => sh_iconst (v := 1) dc_Hall_keepOrder_54 (by decide) k) ?_
  refine sh_cp (fun w Z k => sh_iadd dc_Hall_keepOrder_55 k) ?_
  refine sh_cput (K1 := (sh_u2 K 25 0 ((K 25 0) + 1))) (L1 := L) 3 2 dc_Hall_keepOrder_56 cw_o3 rfl (by decide) fl_Hall_196 rfl rfl rfl rfl pd_I rfl rfl (cq_LockOrder_25 ) (fun i hi => cw_upI (by decide) hi) ?_
  refine sh_cp (fun w Z k => sh_aload_n dc_Hall_keepOrder_59 rfl rfl k) ?_
  refine sh_cget 0 2 dc_Hall_keepOrder_60 cw_o0 rfl (by decide) fl_Hall_27 rfl rfl rfl rfl ?_
  refine sh_cget 3 1 dc_Hall_keepOrder_63 cw_o3 rfl (by decide) fl_Hall_193 rfl rfl rfl rfl ?_
  refine sh_cti (show (sh_u2 K 25 0 ((K 25 0) + 1)) 24 0 = K 24 0 from (sh_u2_row (by decide) _)) ?_
  refine sh_cp (fun w Z k => sh_iconst (v := 2) dc_Hall_keepOrder_66 (by decide) k) ?_
  refine sh_cp (fun w Z k => sh_icmp_ne (tgt := 81) dc_Hall_keepOrder_67 (by decide) (fun _ => k) (fun z => absurd z c5_67)) ?_
  refine sh_cp (fun w Z k => sh_aload_n dc_Hall_keepOrder_81 rfl rfl k) ?_
  refine sh_cget 0 2 dc_Hall_keepOrder_82 cw_o0 rfl (by decide) fl_Hall_27 rfl rfl rfl rfl ?_
  refine sh_cp (fun w Z k => sh_iload dc_Hall_keepOrder_85 rfl k) ?_
  refine sh_cp (fun w Z k => sh_iload_n dc_Hall_keepOrder_87 rfl rfl k) ?_
  refine sh_ccall (fun w hw => sh_virt (As := [.int (sp_own K t), .int (nI s)]) dc_Hall_keepOrder_88 lm_LockOrder_putBefore ln_Hall_285 wd_526 wd_11 rfl rfl (Nat.le_of_ble_eq_true rfl) (hw _ _ cw_o3) rfl) (cl_putBefore (x := sp_own K t) (j := s)) ⟨(Nat.le_of_ble_eq_true rfl), (Nat.le_of_ble_eq_true rfl), (Nat.le_of_ble_eq_true rfl), (Nat.le_of_ble_eq_true rfl)⟩ ?_
  show sh_cW _ _ (_, _, []) (sp_put (sh_u2 K 25 0 ((K 25 0) + 1)) (sp_own K t) s) L _ _ _ _ _
  exact sh_ce (fun w => sh_return dc_Hall_keepOrder_91 rfl (by decide) (by decide))
theorem ct_Hall_keepOrder_Semaphore_1 {A : Nat → Nat} {K : sh_II} {L : sh_DD} {t : Nat} {s : Nat} (ht : t < 6) (hs : s < 8) (ho : cw_okr K) (hk_s : cw_cl (K 12 s) = 5) (c0_7 : (K 24 0) = 0) : sh_cM A md_Hall_keepOrder [.ref (A 0), .ref (A (10 + t)), .ref (A (20 + s)), .int (nI s)] K L (.inl none) K L := by
  refine sh_cp (fun w Z k => sh_aload_n dc_Hall_keepOrder_0 rfl rfl k) ?_
  refine sh_cget 0 2 dc_Hall_keepOrder_1 cw_o0 rfl (by decide) fl_Hall_27 rfl rfl rfl rfl ?_
  refine sh_cget 3 1 dc_Hall_keepOrder_4 cw_o3 rfl (by decide) fl_Hall_193 rfl rfl rfl rfl ?_
  refine sh_cp (fun w Z k => sh_if_eq (tgt := 25) dc_Hall_keepOrder_7 (by decide) (fun _ => k) (fun z => absurd c0_7 z)) ?_
  exact sh_ce (fun w => sh_return dc_Hall_keepOrder_25 rfl (by decide) (by decide))
theorem ct_Hall_keepOrder_Semaphore_2 {A : Nat → Nat} {K : sh_II} {L : sh_DD} {t : Nat} {s : Nat} (ht : t < 6) (hs : s < 8) (ho : cw_okr K) (hk_s : cw_cl (K 12 s) = 5) (c0_7 : ¬ (K 24 0) = 0) : sh_cM A md_Hall_keepOrder [.ref (A 0), .ref (A (10 + t)), .ref (A (20 + s)), .int (nI s)] K L (.inl none) K L := by
  refine sh_cp (fun w Z k => sh_aload_n dc_Hall_keepOrder_0 rfl rfl k) ?_
  refine sh_cget 0 2 dc_Hall_keepOrder_1 cw_o0 rfl (by decide) fl_Hall_27 rfl rfl rfl rfl ?_
  refine sh_cget 3 1 dc_Hall_keepOrder_4 cw_o3 rfl (by decide) fl_Hall_193 rfl rfl rfl rfl ?_
  refine sh_cp (fun w Z k => sh_if_eq (tgt := 25) dc_Hall_keepOrder_7 (by decide) (fun z => absurd z c0_7) (fun _ => k)) ?_
  refine sh_cp (fun w Z k => sh_aload_n dc_Hall_keepOrder_10 rfl rfl k) ?_
  refine sh_cinstNo (20 + s) dc_Hall_keepOrder_11 wd_290 (cw_oe (by omega) hk_s) rfl wn_50 ?_
  refine sh_cp (fun w Z k => sh_if_eq (tgt := 25) dc_Hall_keepOrder_14 (by decide) (fun _ => k) (fun z => absurd (by decide) z)) ?_
  exact sh_ce (fun w => sh_return dc_Hall_keepOrder_25 rfl (by decide) (by decide))
theorem ct_Hall_keepOrder_Latch_1 {A : Nat → Nat} {K : sh_II} {L : sh_DD} {t : Nat} {s : Nat} (ht : t < 6) (hs : s < 8) (ho : cw_okr K) (hk_s : cw_cl (K 12 s) = 6) (c0_7 : (K 24 0) = 0) : sh_cM A md_Hall_keepOrder [.ref (A 0), .ref (A (10 + t)), .ref (A (20 + s)), .int (nI s)] K L (.inl none) K L := by
  refine sh_cp (fun w Z k => sh_aload_n dc_Hall_keepOrder_0 rfl rfl k) ?_
  refine sh_cget 0 2 dc_Hall_keepOrder_1 cw_o0 rfl (by decide) fl_Hall_27 rfl rfl rfl rfl ?_
  refine sh_cget 3 1 dc_Hall_keepOrder_4 cw_o3 rfl (by decide) fl_Hall_193 rfl rfl rfl rfl ?_
  refine sh_cp (fun w Z k => sh_if_eq (tgt := 25) dc_Hall_keepOrder_7 (by decide) (fun _ => k) (fun z => absurd c0_7 z)) ?_
  exact sh_ce (fun w => sh_return dc_Hall_keepOrder_25 rfl (by decide) (by decide))
theorem ct_Hall_keepOrder_Latch_2 {A : Nat → Nat} {K : sh_II} {L : sh_DD} {t : Nat} {s : Nat} (ht : t < 6) (hs : s < 8) (ho : cw_okr K) (hk_s : cw_cl (K 12 s) = 6) (c0_7 : ¬ (K 24 0) = 0) : sh_cM A md_Hall_keepOrder [.ref (A 0), .ref (A (10 + t)), .ref (A (20 + s)), .int (nI s)] K L (.inl none) K L := by
  refine sh_cp (fun w Z k => sh_aload_n dc_Hall_keepOrder_0 rfl rfl k) ?_
  refine sh_cget 0 2 dc_Hall_keepOrder_1 cw_o0 rfl (by decide) fl_Hall_27 rfl rfl rfl rfl ?_
  refine sh_cget 3 1 dc_Hall_keepOrder_4 cw_o3 rfl (by decide) fl_Hall_193 rfl rfl rfl rfl ?_
  refine sh_cp (fun w Z k => sh_if_eq (tgt := 25) dc_Hall_keepOrder_7 (by decide) (fun z => absurd z c0_7) (fun _ => k)) ?_
  refine sh_cp (fun w Z k => sh_aload_n dc_Hall_keepOrder_10 rfl rfl k) ?_
  refine sh_cinstNo (20 + s) dc_Hall_keepOrder_11 wd_290 (cw_oa (by omega) hk_s) rfl wn_51 ?_
  refine sh_cp (fun w Z k => sh_if_eq (tgt := 25) dc_Hall_keepOrder_14 (by decide) (fun _ => k) (fun z => absurd (by decide) z)) ?_
  exact sh_ce (fun w => sh_return dc_Hall_keepOrder_25 rfl (by decide) (by decide))
theorem ct_Hall_keepOrder_Shared_1 {A : Nat → Nat} {K : sh_II} {L : sh_DD} {t : Nat} {s : Nat} (ht : t < 6) (hs : s < 8) (ho : cw_okr K) (hk_s : cw_cl (K 12 s) = 7) (c0_7 : (K 24 0) = 0) : sh_cM A md_Hall_keepOrder [.ref (A 0), .ref (A (10 + t)), .ref (A (20 + s)), .int (nI s)] K L (.inl none) K L := by
  refine sh_cp (fun w Z k => sh_aload_n dc_Hall_keepOrder_0 rfl rfl k) ?_
  refine sh_cget 0 2 dc_Hall_keepOrder_1 cw_o0 rfl (by decide) fl_Hall_27 rfl rfl rfl rfl ?_
  refine sh_cget 3 1 dc_Hall_keepOrder_4 cw_o3 rfl (by decide) fl_Hall_193 rfl rfl rfl rfl ?_
  refine sh_cp (fun w Z k => sh_if_eq (tgt := 25) dc_Hall_keepOrder_7 (by decide) (fun _ => k) (fun z => absurd c0_7 z)) ?_
  exact sh_ce (fun w => sh_return dc_Hall_keepOrder_25 rfl (by decide) (by decide))
theorem ct_Hall_keepOrder_Shared_2 {A : Nat → Nat} {K : sh_II} {L : sh_DD} {t : Nat} {s : Nat} (ht : t < 6) (hs : s < 8) (ho : cw_okr K) (hk_s : cw_cl (K 12 s) = 7) (c0_7 : ¬ (K 24 0) = 0) : sh_cM A md_Hall_keepOrder [.ref (A 0), .ref (A (10 + t)), .ref (A (20 + s)), .int (nI s)] K L (.inl none) K L := by
  refine sh_cp (fun w Z k => sh_aload_n dc_Hall_keepOrder_0 rfl rfl k) ?_
  refine sh_cget 0 2 dc_Hall_keepOrder_1 cw_o0 rfl (by decide) fl_Hall_27 rfl rfl rfl rfl ?_
  refine sh_cget 3 1 dc_Hall_keepOrder_4 cw_o3 rfl (by decide) fl_Hall_193 rfl rfl rfl rfl ?_
  refine sh_cp (fun w Z k => sh_if_eq (tgt := 25) dc_Hall_keepOrder_7 (by decide) (fun z => absurd z c0_7) (fun _ => k)) ?_
  refine sh_cp (fun w Z k => sh_aload_n dc_Hall_keepOrder_10 rfl rfl k) ?_
  refine sh_cinstNo (20 + s) dc_Hall_keepOrder_11 wd_290 (cw_oh (by omega) hk_s) rfl wn_52 ?_
  refine sh_cp (fun w Z k => sh_if_eq (tgt := 25) dc_Hall_keepOrder_14 (by decide) (fun _ => k) (fun z => absurd (by decide) z)) ?_
  exact sh_ce (fun w => sh_return dc_Hall_keepOrder_25 rfl (by decide) (by decide))
theorem ct_Hall_queueForLock_1 {A : Nat → Nat} {K : sh_II} {L : sh_DD} {t : Nat} {s : Nat} {x : Int32} {l : List Nat} {l25 : List Nat} (ht : t < 6) (hs : s < 8) (hr : cw_row K s l) (hlen : l.length < 6) (hk_s : cw_cl (K 12 s) = 4) (v0_25 : cw_row (sh_u2 (sh_u2 (sh_u2 (sh_u2 (sh_u2 (sh_u2 (sh_u2 K 10 t x) 27 t 1) 18 (6 * s + l.length) (nI t)) 19 s ((K 19 s) + 1)) 5 t (nI s)) 6 t 0) 4 t 0) s l25) (v1_25 : sp_svok (L 11 0) s l25.length (sh_u2 (sh_u2 (sh_u2 (sh_u2 (sh_u2 (sh_u2 (sh_u2 K 10 t x) 27 t 1) 18 (6 * s + l.length) (nI t)) 19 s ((K 19 s) + 1)) 5 t (nI s)) 6 t 0) 4 t 0) (sh_u2 L 8 t (L 11 0)) l25) : sh_cM A md_Hall_queueForLock [.ref (A 0), .ref (A (10 + t)), .ref (A (20 + s)), .int x] K L (.inl none) (sp_serve (L 11 0) s l25.length (sh_u2 (sh_u2 (sh_u2 (sh_u2 (sh_u2 (sh_u2 (sh_u2 K 10 t x) 27 t 1) 18 (6 * s + l.length) (nI t)) 19 s ((K 19 s) + 1)) 5 t (nI s)) 6 t 0) 4 t 0) (sh_u2 L 8 t (L 11 0)) l25).1 (sp_serve (L 11 0) s l25.length (sh_u2 (sh_u2 (sh_u2 (sh_u2 (sh_u2 (sh_u2 (sh_u2 K 10 t x) 27 t 1) 18 (6 * s + l.length) (nI t)) 19 s ((K 19 s) + 1)) 5 t (nI s)) 6 t 0) 4 t 0) (sh_u2 L 8 t (L 11 0)) l25).2 := by
  refine sh_cp (fun w Z k => sh_aload_n dc_Hall_queueForLock_0 rfl rfl k) ?_
  refine sh_cp (fun w Z k => sh_iload_n dc_Hall_queueForLock_1 rfl rfl k) ?_
  refine sh_cput (K1 := (sh_u2 K 10 t x)) (L1 := L) (10 + t) 10 dc_Hall_queueForLock_2 (cw_ow (by omega)) rfl (by decide) fl_Hall_116 rfl rfl rfl rfl pd_I rfl rfl (cq_Worker_10 (by omega)) (fun i hi => cw_upI (by decide) hi) ?_
  refine sh_cp (fun w Z k => sh_aload_n dc_Hall_queueForLock_5 rfl rfl k) ?_
  refine sh_cp (fun w Z k => sh_iconst (v := 1) dc_Hall_queueForLock_6 (by decide) k) ?_
  refine sh_cput (K1 := (sh_u2 (sh_u2 K 10 t x) 27 t 1)) (L1 := L) (10 + t) 11 dc_Hall_queueForLock_7 (cw_ow (by omega)) rfl (by decide) fl_Hall_179 rfl rfl rfl rfl pd_Z rfl rfl (cq_Worker_27 (by omega)) (fun i hi => cw_upI (by decide) hi) ?_
  refine sh_cp (fun w Z k => sh_aload_n dc_Hall_queueForLock_10 rfl rfl k) ?_
  refine sh_cp (fun w Z k => sh_aload_n dc_Hall_queueForLock_11 rfl rfl k) ?_
  refine sh_cp (fun w Z k => sh_iconst (v := 0) dc_Hall_queueForLock_12 (by decide) k) ?_
  refine sh_cp (fun w Z k => sh_aload_n dc_Hall_queueForLock_13 rfl rfl k) ?_
  refine sh_cget 0 4 dc_Hall_queueForLock_14 cw_o0 rfl (by decide) fl_Hall_35 rfl rfl rfl rfl ?_
  refine sh_ccall (fun w hw => sh_virtU (As := [.ref (A (10 + t)), .int 0, .double (L 11 0)]) dc_Hall_queueForLock_17 lm_Sync_enqueue wd_742 wd_743 (Or.inl wd_606) ⟨by decide, by decide⟩ (by decide +kernel) wd_611 wd_744 rfl rfl (Nat.le_of_ble_eq_true rfl) (hw _ _ (cw_ol (by omega) ((congrArg cw_cl (Eq.trans (sh_u2_row (by decide) _) (sh_u2_row (by decide) _))).trans hk_s))) rfl) (ct_Sync_enqueue_Lock_1 (t := t) (s := s) (m := 0) (a := L 11 0) (c := l.length) (by omega) (by omega) (by omega) (Eq.trans (Eq.trans (sh_u2_row (by decide) _) (sh_u2_row (by decide) _)) hr.1) ((congrArg cw_cl (Eq.trans (sh_u2_row (by decide) _) (sh_u2_row (by decide) _))).trans hk_s)) ⟨(Nat.le_of_ble_eq_true rfl), (Nat.le_of_ble_eq_true rfl), (Nat.le_of_ble_eq_true rfl), (Nat.le_of_ble_eq_true rfl)⟩ ?_
  show sh_cW _ _ (_, _, []) (sh_u2 (sh_u2 (sh_u2 (sh_u2 (sh_u2 (sh_u2 (sh_u2 K 10 t x) 27 t 1) 18 (6 * s + l.length) (nI t)) 19 s (((sh_u2 (sh_u2 K 10 t x) 27 t 1) 19 s) + 1)) 5 t (nI s)) 6 t 0) 4 t 0) (sh_u2 L 8 t (L 11 0)) _ _ _ _ _
  refine sh_cst (show (sh_u2 (sh_u2 (sh_u2 (sh_u2 (sh_u2 (sh_u2 (sh_u2 K 10 t x) 27 t 1) 18 (6 * s + l.length) (nI t)) 19 s (((sh_u2 (sh_u2 K 10 t x) 27 t 1) 19 s) + 1)) 5 t (nI s)) 6 t 0) 4 t 0) = (sh_u2 (sh_u2 (sh_u2 (sh_u2 (sh_u2 (sh_u2 (sh_u2 K 10 t x) 27 t 1) 18 (6 * s + l.length) (nI t)) 19 s ((K 19 s) + 1)) 5 t (nI s)) 6 t 0) 4 t 0) from by rw [(show (sh_u2 (sh_u2 K 10 t x) 27 t 1) 19 s = K 19 s from (Eq.trans (sh_u2_row (by decide) _) (sh_u2_row (by decide) _)))]) rfl ?_
  refine sh_cp (fun w Z k => sh_aload_n dc_Hall_queueForLock_20 rfl rfl k) ?_
  refine sh_cp (fun w Z k => sh_aload_n dc_Hall_queueForLock_21 rfl rfl k) ?_
  refine sh_cget 0 4 dc_Hall_queueForLock_22 cw_o0 rfl (by decide) fl_Hall_35 rfl rfl rfl rfl ?_
  refine sh_ctd (show (sh_u2 L 8 t (L 11 0)) 11 0 = L 11 0 from (sh_u2_row (by decide) _)) ?_
  refine sh_ccall (fun w hw => sh_virtU (As := [.double (L 11 0)]) dc_Hall_queueForLock_25 lm_Gate_serve wd_745 wd_746 (Or.inl wd_747) ⟨by decide, by decide⟩ (by decide +kernel) wd_668 wd_748 rfl rfl (Nat.le_of_ble_eq_true rfl) (hw _ _ (cw_ol (by omega) ((congrArg cw_cl (Eq.trans (sh_u2_row (by decide) _) (Eq.trans (sh_u2_row (by decide) _) (Eq.trans (sh_u2_row (by decide) _) (Eq.trans (sh_u2_row (by decide) _) (Eq.trans (sh_u2_row (by decide) _) (Eq.trans (sh_u2_row (by decide) _) (sh_u2_row (by decide) _)))))))).trans hk_s))) rfl) (cl_serve_Lock (s := s) (p := L 11 0) (l := l25) (by omega) v0_25 v1_25 ((congrArg cw_cl (Eq.trans (sh_u2_row (by decide) _) (Eq.trans (sh_u2_row (by decide) _) (Eq.trans (sh_u2_row (by decide) _) (Eq.trans (sh_u2_row (by decide) _) (Eq.trans (sh_u2_row (by decide) _) (Eq.trans (sh_u2_row (by decide) _) (sh_u2_row (by decide) _)))))))).trans hk_s)) ⟨(Nat.le_of_ble_eq_true rfl), (Nat.le_of_ble_eq_true rfl), (Nat.le_of_ble_eq_true rfl), (Nat.le_of_ble_eq_true rfl)⟩ ?_
  show sh_cW _ _ (_, _, []) (sp_serve (L 11 0) s l25.length (sh_u2 (sh_u2 (sh_u2 (sh_u2 (sh_u2 (sh_u2 (sh_u2 K 10 t x) 27 t 1) 18 (6 * s + l.length) (nI t)) 19 s ((K 19 s) + 1)) 5 t (nI s)) 6 t 0) 4 t 0) (sh_u2 L 8 t (L 11 0)) l25).1 (sp_serve (L 11 0) s l25.length (sh_u2 (sh_u2 (sh_u2 (sh_u2 (sh_u2 (sh_u2 (sh_u2 K 10 t x) 27 t 1) 18 (6 * s + l.length) (nI t)) 19 s ((K 19 s) + 1)) 5 t (nI s)) 6 t 0) 4 t 0) (sh_u2 L 8 t (L 11 0)) l25).2 _ _ _ _ _
  exact sh_ce (fun w => sh_return dc_Hall_queueForLock_28 rfl (by decide) (by decide))
