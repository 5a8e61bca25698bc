theorem ct_Hall_make_x_1 {A : Nat → Nat} {K : sh_II} {L : sh_DD} {x : Int32} {o : Int32} {z : Int32} (c0_4 : x < 0) : sh_cM A md_Hall_make [.ref (A 0), .int x, .int o, .int z] K L (.inr 1) K L := by
  refine sh_cp (fun w Z k => sh_iload_n dc_Hall_make_0 rfl rfl k) ?_
  refine sh_cp (fun w Z k => sh_iconst (v := 0) dc_Hall_make_1 (by decide) k) ?_
  refine sh_cp (fun w Z k => sh_bipush (v := 7) dc_Hall_make_2 (by decide) k) ?_
  exact sh_ccallT (fun w hw => sh_stat (As := [.int x, .int 0, .int 7]) dc_Hall_make_4 lm_Hall_checkNumber ln_Hall_39 wd_191 wd_49 rfl rfl (Nat.le_of_ble_eq_true rfl)) (ct_Hall_checkNumber_1 (x := x) (lo := 0) (hi := 7) c0_4) ⟨(Nat.le_of_ble_eq_true rfl), (Nat.le_of_ble_eq_true rfl), (Nat.le_of_ble_eq_true rfl), (Nat.le_of_ble_eq_true rfl)⟩ rfl
theorem ct_Hall_make_x_20 {A : Nat → Nat} {K : sh_II} {L : sh_DD} {x : Int32} {o : Int32} {z : Int32} (c0_4 : ¬ x < 0) (c1_4 : ¬ x ≤ 7) : sh_cM A md_Hall_make [.ref (A 0), .int x, .int o, .int z] K L (.inr 1) K L := by
  refine sh_cp (fun w Z k => sh_iload_n dc_Hall_make_0 rfl rfl k) ?_
  refine sh_cp (fun w Z k => sh_iconst (v := 0) dc_Hall_make_1 (by decide) k) ?_
  refine sh_cp (fun w Z k => sh_bipush (v := 7) dc_Hall_make_2 (by decide) k) ?_
  exact sh_ccallT (fun w hw => sh_stat (As := [.int x, .int 0, .int 7]) dc_Hall_make_4 lm_Hall_checkNumber ln_Hall_39 wd_191 wd_49 rfl rfl (Nat.le_of_ble_eq_true rfl)) (ct_Hall_checkNumber_3 (x := x) (lo := 0) (hi := 7) c0_4 c1_4) ⟨(Nat.le_of_ble_eq_true rfl), (Nat.le_of_ble_eq_true rfl), (Nat.le_of_ble_eq_true rfl), (Nat.le_of_ble_eq_true rfl)⟩ rfl
theorem ct_Hall_make_o_1 {A : Nat → Nat} {K : sh_II} {L : sh_DD} {s : Nat} {o : Int32} {z : Int32} (hs : s < 8) (c0_11 : o < 0) : sh_cM A md_Hall_make [.ref (A 0), .int (nI s), .int o, .int z] K L (.inr 1) K L := by
  refine sh_cp (fun w Z k => sh_iload_n dc_Hall_make_0 rfl rfl k) ?_
  refine sh_cp (fun w Z k => sh_iconst (v := 0) dc_Hall_make_1 (by decide) k) ?_
  refine sh_cp (fun w Z k => sh_bipush (v := 7) dc_Hall_make_2 (by decide) k) ?_
  refine sh_ccall (fun w hw => sh_stat (As := [.int (nI s), .int 0, .int 7]) dc_Hall_make_4 lm_Hall_checkNumber ln_Hall_39 wd_191 wd_49 rfl rfl (Nat.le_of_ble_eq_true rfl)) (ct_Hall_checkNumber_2 (x := nI s) (lo := 0) (hi := 7) (nI_pos (by omega)) (sp_le7 hs)) ⟨(Nat.le_of_ble_eq_true rfl), (Nat.le_of_ble_eq_true rfl), (Nat.le_of_ble_eq_true rfl), (Nat.le_of_ble_eq_true rfl)⟩ ?_
  show sh_cW _ _ (_, _, []) K L _ _ _ _ _
  refine sh_cp (fun w Z k => sh_iload_n dc_Hall_make_7 rfl rfl k) ?_
  refine sh_cp (fun w Z k => sh_iconst (v := 0) dc_Hall_make_8 (by decide) k) ?_
  refine sh_cp (fun w Z k => sh_bipush (v := 6) dc_Hall_make_9 (by decide) k) ?_
  exact sh_ccallT (fun w hw => sh_stat (As := [.int o, .int 0, .int 6]) dc_Hall_make_11 lm_Hall_checkNumber ln_Hall_39 wd_191 wd_49 rfl rfl (Nat.le_of_ble_eq_true rfl)) (ct_Hall_checkNumber_1 (x := o) (lo := 0) (hi := 6) c0_11) ⟨(Nat.le_of_ble_eq_true rfl), (Nat.le_of_ble_eq_true rfl), (Nat.le_of_ble_eq_true rfl), (Nat.le_of_ble_eq_true rfl)⟩ rfl
theorem ct_Hall_make_o_23 {A : Nat → Nat} {K : sh_II} {L : sh_DD} {s : Nat} {o : Int32} {z : Int32} (hs : s < 8) (c0_11 : ¬ o < 0) (c1_11 : ¬ o ≤ 6) : sh_cM A md_Hall_make [.ref (A 0), .int (nI s), .int o, .int z] K L (.inr 1) K L := by
  refine sh_cp (fun w Z k => sh_iload_n dc_Hall_make_0 rfl rfl k) ?_
  refine sh_cp (fun w Z k => sh_iconst (v := 0) dc_Hall_make_1 (by decide) k) ?_
  refine sh_cp (fun w Z k => sh_bipush (v := 7) dc_Hall_make_2 (by decide) k) ?_
  refine sh_ccall (fun w hw => sh_stat (As := [.int (nI s), .int 0, .int 7]) dc_Hall_make_4 lm_Hall_checkNumber ln_Hall_39 wd_191 wd_49 rfl rfl (Nat.le_of_ble_eq_true rfl)) (ct_Hall_checkNumber_2 (x := nI s) (lo := 0) (hi := 7) (nI_pos (by omega)) (sp_le7 hs)) ⟨(Nat.le_of_ble_eq_true rfl), (Nat.le_of_ble_eq_true rfl), (Nat.le_of_ble_eq_true rfl), (Nat.le_of_ble_eq_true rfl)⟩ ?_
  show sh_cW _ _ (_, _, []) K L _ _ _ _ _
  refine sh_cp (fun w Z k => sh_iload_n dc_Hall_make_7 rfl rfl k) ?_
  refine sh_cp (fun w Z k => sh_iconst (v := 0) dc_Hall_make_8 (by decide) k) ?_
  refine sh_cp (fun w Z k => sh_bipush (v := 6) dc_Hall_make_9 (by decide) k) ?_
  exact sh_ccallT (fun w hw => sh_stat (As := [.int o, .int 0, .int 6]) dc_Hall_make_11 lm_Hall_checkNumber ln_Hall_39 wd_191 wd_49 rfl rfl (Nat.le_of_ble_eq_true rfl)) (ct_Hall_checkNumber_3 (x := o) (lo := 0) (hi := 6) c0_11 c1_11) ⟨(Nat.le_of_ble_eq_true rfl), (Nat.le_of_ble_eq_true rfl), (Nat.le_of_ble_eq_true rfl), (Nat.le_of_ble_eq_true rfl)⟩ rfl
theorem ct_Hall_make_k0_1 {A : Nat → Nat} {K : sh_II} {L : sh_DD} {s : Nat} {z : Int32} (hs : s < 8) (v0_17 : (0 : Int32).toInt < 2 ∨ 6 < (0 : Int32).toInt) (c1_20 : z < 0) : sh_cM A md_Hall_make [.ref (A 0), .int (nI s), .int 0, .int z] K L (.inr 1) K L := by
  refine sh_cp (fun w Z k => sh_iload_n dc_Hall_make_0 rfl rfl k) ?_
  refine sh_cp (fun w Z k => sh_iconst (v := 0) dc_Hall_make_1 (by decide) k) ?_
  refine sh_cp (fun w Z k => sh_bipush (v := 7) dc_Hall_make_2 (by decide) k) ?_
  refine sh_ccall (fun w hw => sh_stat (As := [.int (nI s), .int 0, .int 7]) dc_Hall_make_4 lm_Hall_checkNumber ln_Hall_39 wd_191 wd_49 rfl rfl (Nat.le_of_ble_eq_true rfl)) (ct_Hall_checkNumber_2 (x := nI s) (lo := 0) (hi := 7) (nI_pos (by omega)) (sp_le7 hs)) ⟨(Nat.le_of_ble_eq_true rfl), (Nat.le_of_ble_eq_true rfl), (Nat.le_of_ble_eq_true rfl), (Nat.le_of_ble_eq_true rfl)⟩ ?_
  show sh_cW _ _ (_, _, []) K L _ _ _ _ _
  refine sh_cp (fun w Z k => sh_iload_n dc_Hall_make_7 rfl rfl k) ?_
  refine sh_cp (fun w Z k => sh_iconst (v := 0) dc_Hall_make_8 (by decide) k) ?_
  refine sh_cp (fun w Z k => sh_bipush (v := 6) dc_Hall_make_9 (by decide) k) ?_
  refine sh_ccall (fun w hw => sh_stat (As := [.int 0, .int 0, .int 6]) dc_Hall_make_11 lm_Hall_checkNumber ln_Hall_39 wd_191 wd_49 rfl rfl (Nat.le_of_ble_eq_true rfl)) (ct_Hall_checkNumber_2 (x := 0) (lo := 0) (hi := 6) (by decide) (by decide)) ⟨(Nat.le_of_ble_eq_true rfl), (Nat.le_of_ble_eq_true rfl), (Nat.le_of_ble_eq_true rfl), (Nat.le_of_ble_eq_true rfl)⟩ ?_
  show sh_cW _ _ (_, _, []) K L _ _ _ _ _
  refine sh_cp (fun w Z k => sh_iload_n dc_Hall_make_14 rfl rfl k) ?_
  refine sh_cp (fun w Z k => sh_iconst (v := 0) dc_Hall_make_15 (by decide) k) ?_
  refine sh_cp (fun w Z k => sh_iload_n dc_Hall_make_16 rfl rfl k) ?_
  refine sh_ccall (fun w hw => sh_stat (As := [.int 0]) dc_Hall_make_17 lm_Hall_greatestFor ln_Hall_43 wd_264 wd_49 rfl rfl (Nat.le_of_ble_eq_true rfl)) (ct_Hall_greatestFor_6 (x := 0) v0_17) ⟨(Nat.le_of_ble_eq_true rfl), (Nat.le_of_ble_eq_true rfl), (Nat.le_of_ble_eq_true rfl), (Nat.le_of_ble_eq_true rfl)⟩ ?_
  show sh_cW _ _ (_, _, [.int 0, .int 0, .int z]) K L _ _ _ _ _
  exact sh_ccallT (fun w hw => sh_stat (As := [.int z, .int 0, .int 0]) dc_Hall_make_20 lm_Hall_checkNumber ln_Hall_39 wd_191 wd_49 rfl rfl (Nat.le_of_ble_eq_true rfl)) (ct_Hall_checkNumber_1 (x := z) (lo := 0) (hi := 0) c1_20) ⟨(Nat.le_of_ble_eq_true rfl), (Nat.le_of_ble_eq_true rfl), (Nat.le_of_ble_eq_true rfl), (Nat.le_of_ble_eq_true rfl)⟩ rfl
theorem ct_Hall_make_k0_2 {A : Nat → Nat} {K : sh_II} {L : sh_DD} {s : Nat} {z : Int32} (hs : s < 8) (v0_17 : (0 : Int32).toInt < 2 ∨ 6 < (0 : Int32).toInt) (c1_20 : ¬ z < 0) (c2_20 : z ≤ 0) (c3_45 : ¬ cw_cl (K 12 s) = 0) : sh_cM A md_Hall_make [.ref (A 0), .int (nI s), .int 0, .int z] K L (.inr 3) K L := by
  refine sh_cp (fun w Z k => sh_iload_n dc_Hall_make_0 rfl rfl k) ?_
  refine sh_cp (fun w Z k => sh_iconst (v := 0) dc_Hall_make_1 (by decide) k) ?_
  refine sh_cp (fun w Z k => sh_bipush (v := 7) dc_Hall_make_2 (by decide) k) ?_
  refine sh_ccall (fun w hw => sh_stat (As := [.int (nI s), .int 0, .int 7]) dc_Hall_make_4 lm_Hall_checkNumber ln_Hall_39 wd_191 wd_49 rfl rfl (Nat.le_of_ble_eq_true rfl)) (ct_Hall_checkNumber_2 (x := nI s) (lo := 0) (hi := 7) (nI_pos (by omega)) (sp_le7 hs)) ⟨(Nat.le_of_ble_eq_true rfl), (Nat.le_of_ble_eq_true rfl), (Nat.le_of_ble_eq_true rfl), (Nat.le_of_ble_eq_true rfl)⟩ ?_
  show sh_cW _ _ (_, _, []) K L _ _ _ _ _
  refine sh_cp (fun w Z k => sh_iload_n dc_Hall_make_7 rfl rfl k) ?_
  refine sh_cp (fun w Z k => sh_iconst (v := 0) dc_Hall_make_8 (by decide) k) ?_
  refine sh_cp (fun w Z k => sh_bipush (v := 6) dc_Hall_make_9 (by decide) k) ?_
  refine sh_ccall (fun w hw => sh_stat (As := [.int 0, .int 0, .int 6]) dc_Hall_make_11 lm_Hall_checkNumber ln_Hall_39 wd_191 wd_49 rfl rfl (Nat.le_of_ble_eq_true rfl)) (ct_Hall_checkNumber_2 (x := 0) (lo := 0) (hi := 6) (by decide) (by decide)) ⟨(Nat.le_of_ble_eq_true rfl), (Nat.le_of_ble_eq_true rfl), (Nat.le_of_ble_eq_true rfl), (Nat.le_of_ble_eq_true rfl)⟩ ?_
  show sh_cW _ _ (_, _, []) K L _ _ _ _ _
  refine sh_cp (fun w Z k => sh_iload_n dc_Hall_make_14 rfl rfl k) ?_
  refine sh_cp (fun w Z k => sh_iconst (v := 0) dc_Hall_make_15 (by decide) k) ?_
  refine sh_cp (fun w Z k => sh_iload_n dc_Hall_make_16 rfl rfl k) ?_
  refine sh_ccall (fun w hw => sh_stat (As := [.int 0]) dc_Hall_make_17 lm_Hall_greatestFor ln_Hall_43 wd_264 wd_49 rfl rfl (Nat.le_of_ble_eq_true rfl)) (ct_Hall_greatestFor_6 (x := 0) v0_17) ⟨(Nat.le_of_ble_eq_true rfl), (Nat.le_of_ble_eq_true rfl), (Nat.le_of_ble_eq_true rfl), (Nat.le_of_ble_eq_true rfl)⟩ ?_
  show sh_cW _ _ (_, _, [.int 0, .int 0, .int z]) K L _ _ _ _ _
  refine sh_ccall (fun w hw => sh_stat (As := [.int z, .int 0, .int 0]) dc_Hall_make_20 lm_Hall_checkNumber ln_Hall_39 wd_191 wd_49 rfl rfl (Nat.le_of_ble_eq_true rfl)) (ct_Hall_checkNumber_2 (x := z) (lo := 0) (hi := 0) c1_20 c2_20) ⟨(Nat.le_of_ble_eq_true rfl), (Nat.le_of_ble_eq_true rfl), (Nat.le_of_ble_eq_true rfl), (Nat.le_of_ble_eq_true rfl)⟩ ?_
  show sh_cW _ _ (_, _, []) K L _ _ _ _ _
  refine sh_cp (fun w Z k => sh_iload_n dc_Hall_make_23 rfl rfl k) ?_
  refine sh_cp (fun w Z k => sh_bipush (v := 6) dc_Hall_make_24 (by decide) k) ?_
  refine sh_cp (fun w Z k => sh_icmp_ne (tgt := 37) dc_Hall_make_26 (by decide) (fun _ => k) (fun z => absurd z (by decide))) ?_
  refine sh_cp (fun w Z k => sh_anull dc_Hall_make_37 k) ?_
  refine sh_cp (fun w Z k => sh_astoreN dc_Hall_make_38 (by decide) k) ?_
  refine sh_cp (fun w Z k => sh_aload_n dc_Hall_make_40 rfl rfl k) ?_
  refine sh_cget 0 1 dc_Hall_make_41 cw_o0 rfl (by decide) fl_Hall_20 rfl rfl rfl rfl ?_
  refine sh_cp (fun w Z k => sh_iload_n dc_Hall_make_44 rfl rfl k) ?_
  refine sh_caald 2 (k := s) dc_Hall_make_45 cw_o2 rfl rfl (by omega) (by decide) ?_
  refine sh_ctv (if_neg c3_45) ?_
  refine sh_cp (fun w Z k => sh_ifnull dc_Hall_make_46 k) ?_
  exact sh_ct (fun w => sh_thr (lx := 2) (tx := "the sync is there") dc_Hall_make_49 dc_Hall_make_52 (Or.inl ⟨dc_Hall_make_53, rfl⟩) dc_Hall_make_55 dc_Hall_make_58 lx_Hall_51_55 (by decide +kernel) rfl (by decide) (by decide) (by decide) (by decide))
theorem ct_Hall_make_k0_3 {A : Nat → Nat} {K : sh_II} {L : sh_DD} {s : Nat} {z : Int32} (hs : s < 8) (v0_17 : (0 : Int32).toInt < 2 ∨ 6 < (0 : Int32).toInt) (c1_20 : ¬ z < 0) (c2_20 : ¬ z ≤ 0) : sh_cM A md_Hall_make [.ref (A 0), .int (nI s), .int 0, .int z] K L (.inr 1) K L := by
  refine sh_cp (fun w Z k => sh_iload_n dc_Hall_make_0 rfl rfl k) ?_
  refine sh_cp (fun w Z k => sh_iconst (v := 0) dc_Hall_make_1 (by decide) k) ?_
  refine sh_cp (fun w Z k => sh_bipush (v := 7) dc_Hall_make_2 (by decide) k) ?_
  refine sh_ccall (fun w hw => sh_stat (As := [.int (nI s), .int 0, .int 7]) dc_Hall_make_4 lm_Hall_checkNumber ln_Hall_39 wd_191 wd_49 rfl rfl (Nat.le_of_ble_eq_true rfl)) (ct_Hall_checkNumber_2 (x := nI s) (lo := 0) (hi := 7) (nI_pos (by omega)) (sp_le7 hs)) ⟨(Nat.le_of_ble_eq_true rfl), (Nat.le_of_ble_eq_true rfl), (Nat.le_of_ble_eq_true rfl), (Nat.le_of_ble_eq_true rfl)⟩ ?_
  show sh_cW _ _ (_, _, []) K L _ _ _ _ _
  refine sh_cp (fun w Z k => sh_iload_n dc_Hall_make_7 rfl rfl k) ?_
  refine sh_cp (fun w Z k => sh_iconst (v := 0) dc_Hall_make_8 (by decide) k) ?_
  refine sh_cp (fun w Z k => sh_bipush (v := 6) dc_Hall_make_9 (by decide) k) ?_
  refine sh_ccall (fun w hw => sh_stat (As := [.int 0, .int 0, .int 6]) dc_Hall_make_11 lm_Hall_checkNumber ln_Hall_39 wd_191 wd_49 rfl rfl (Nat.le_of_ble_eq_true rfl)) (ct_Hall_checkNumber_2 (x := 0) (lo := 0) (hi := 6) (by decide) (by decide)) ⟨(Nat.le_of_ble_eq_true rfl), (Nat.le_of_ble_eq_true rfl), (Nat.le_of_ble_eq_true rfl), (Nat.le_of_ble_eq_true rfl)⟩ ?_
  show sh_cW _ _ (_, _, []) K L _ _ _ _ _
  refine sh_cp (fun w Z k => sh_iload_n dc_Hall_make_14 rfl rfl k) ?_
  refine sh_cp (fun w Z k => sh_iconst (v := 0) dc_Hall_make_15 (by decide) k) ?_
  refine sh_cp (fun w Z k => sh_iload_n dc_Hall_make_16 rfl rfl k) ?_
  refine sh_ccall (fun w hw => sh_stat (As := [.int 0]) dc_Hall_make_17 lm_Hall_greatestFor ln_Hall_43 wd_264 wd_49 rfl rfl (Nat.le_of_ble_eq_true rfl)) (ct_Hall_greatestFor_6 (x := 0) v0_17) ⟨(Nat.le_of_ble_eq_true rfl), (Nat.le_of_ble_eq_true rfl), (Nat.le_of_ble_eq_true rfl), (Nat.le_of_ble_eq_true rfl)⟩ ?_
  show sh_cW _ _ (_, _, [.int 0, .int 0, .int z]) K L _ _ _ _ _
  exact sh_ccallT (fun w hw => sh_stat (As := [.int z, .int 0, .int 0]) dc_Hall_make_20 lm_Hall_checkNumber ln_Hall_39 wd_191 wd_49 rfl rfl (Nat.le_of_ble_eq_true rfl)) (ct_Hall_checkNumber_3 (x := z) (lo := 0) (hi := 0) c1_20 c2_20) ⟨(Nat.le_of_ble_eq_true rfl), (Nat.le_of_ble_eq_true rfl), (Nat.le_of_ble_eq_true rfl), (Nat.le_of_ble_eq_true rfl)⟩ rfl
theorem ct_Hall_make_k1_1 {A : Nat → Nat} {K : sh_II} {L : sh_DD} {s : Nat} {z : Int32} (hs : s < 8) (v0_17 : (1 : Int32).toInt < 2 ∨ 6 < (1 : Int32).toInt) (c1_20 : z < 0) : sh_cM A md_Hall_make [.ref (A 0), .int (nI s), .int 1, .int z] K L (.inr 1) K L := by
  refine sh_cp (fun w Z k => sh_iload_n dc_Hall_make_0 rfl rfl k) ?_
  refine sh_cp (fun w Z k => sh_iconst (v := 0) dc_Hall_make_1 (by decide) k) ?_
  refine sh_cp (fun w Z k => sh_bipush (v := 7) dc_Hall_make_2 (by decide) k) ?_
  refine sh_ccall (fun w hw => sh_stat (As := [.int (nI s), .int 0, .int 7]) dc_Hall_make_4 lm_Hall_checkNumber ln_Hall_39 wd_191 wd_49 rfl rfl (Nat.le_of_ble_eq_true rfl)) (ct_Hall_checkNumber_2 (x := nI s) (lo := 0) (hi := 7) (nI_pos (by omega)) (sp_le7 hs)) ⟨(Nat.le_of_ble_eq_true rfl), (Nat.le_of_ble_eq_true rfl), (Nat.le_of_ble_eq_true rfl), (Nat.le_of_ble_eq_true rfl)⟩ ?_
  show sh_cW _ _ (_, _, []) K L _ _ _ _ _
  refine sh_cp (fun w Z k => sh_iload_n dc_Hall_make_7 rfl rfl k) ?_
  refine sh_cp (fun w Z k => sh_iconst (v := 0) dc_Hall_make_8 (by decide) k) ?_
  refine sh_cp (fun w Z k => sh_bipush (v := 6) dc_Hall_make_9 (by decide) k) ?_
  refine sh_ccall (fun w hw => sh_stat (As := [.int 1, .int 0, .int 6]) dc_Hall_make_11 lm_Hall_checkNumber ln_Hall_39 wd_191 wd_49 rfl rfl (Nat.le_of_ble_eq_true rfl)) (ct_Hall_checkNumber_2 (x := 1) (lo := 0) (hi := 6) (by decide) (by decide)) ⟨(Nat.le_of_ble_eq_true rfl), (Nat.le_of_ble_eq_true rfl), (Nat.le_of_ble_eq_true rfl), (Nat.le_of_ble_eq_true rfl)⟩ ?_
  show sh_cW _ _ (_, _, []) K L _ _ _ _ _
  refine sh_cp (fun w Z k => sh_iload_n dc_Hall_make_14 rfl rfl k) ?_
  refine sh_cp (fun w Z k => sh_iconst (v := 0) dc_Hall_make_15 (by decide) k) ?_
  refine sh_cp (fun w Z k => sh_iload_n dc_Hall_make_16 rfl rfl k) ?_
  refine sh_ccall (fun w hw => sh_stat (As := [.int 1]) dc_Hall_make_17 lm_Hall_greatestFor ln_Hall_43 wd_264 wd_49 rfl rfl (Nat.le_of_ble_eq_true rfl)) (ct_Hall_greatestFor_6 (x := 1) v0_17) ⟨(Nat.le_of_ble_eq_true rfl), (Nat.le_of_ble_eq_true rfl), (Nat.le_of_ble_eq_true rfl), (Nat.le_of_ble_eq_true rfl)⟩ ?_
  show sh_cW _ _ (_, _, [.int 0, .int 0, .int z]) K L _ _ _ _ _
  exact sh_ccallT (fun w hw => sh_stat (As := [.int z, .int 0, .int 0]) dc_Hall_make_20 lm_Hall_checkNumber ln_Hall_39 wd_191 wd_49 rfl rfl (Nat.le_of_ble_eq_true rfl)) (ct_Hall_checkNumber_1 (x := z) (lo := 0) (hi := 0) c1_20) ⟨(Nat.le_of_ble_eq_true rfl), (Nat.le_of_ble_eq_true rfl), (Nat.le_of_ble_eq_true rfl), (Nat.le_of_ble_eq_true rfl)⟩ rfl
theorem ct_Hall_make_k1_2 {A : Nat → Nat} {K : sh_II} {L : sh_DD} {s : Nat} {z : Int32} (hs : s < 8) (v0_17 : (1 : Int32).toInt < 2 ∨ 6 < (1 : Int32).toInt) (c1_20 : ¬ z < 0) (c2_20 : z ≤ 0) (c3_45 : ¬ cw_cl (K 12 s) = 0) : sh_cM A md_Hall_make [.ref (A 0), .int (nI s), .int 1, .int z] K L (.inr 3) K L := by
  refine sh_cp (fun w Z k => sh_iload_n dc_Hall_make_0 rfl rfl k) ?_
  refine sh_cp (fun w Z k => sh_iconst (v := 0) dc_Hall_make_1 (by decide) k) ?_
  refine sh_cp (fun w Z k => sh_bipush (v := 7) dc_Hall_make_2 (by decide) k) ?_
  refine sh_ccall (fun w hw => sh_stat (As := [.int (nI s), .int 0, .int 7]) dc_Hall_make_4 lm_Hall_checkNumber ln_Hall_39 wd_191 wd_49 rfl rfl (Nat.le_of_ble_eq_true rfl)) (ct_Hall_checkNumber_2 (x := nI s) (lo := 0) (hi := 7) (nI_pos (by omega)) (sp_le7 hs)) ⟨(Nat.le_of_ble_eq_true rfl), (Nat.le_of_ble_eq_true rfl), (Nat.le_of_ble_eq_true rfl), (Nat.le_of_ble_eq_true rfl)⟩ ?_
  show sh_cW _ _ (_, _, []) K L _ _ _ _ _
  refine sh_cp (fun w Z k => sh_iload_n dc_Hall_make_7 rfl rfl k) ?_
  refine sh_cp (fun w Z k => sh_iconst (v := 0) dc_Hall_make_8 (by decide) k) ?_
  refine sh_cp (fun w Z k => sh_bipush (v := 6) dc_Hall_make_9 (by decide) k) ?_
  refine sh_ccall (fun w hw => sh_stat (As := [.int 1, .int 0, .int 6]) dc_Hall_make_11 lm_Hall_checkNumber ln_Hall_39 wd_191 wd_49 rfl rfl (Nat.le_of_ble_eq_true rfl)) (ct_Hall_checkNumber_2 (x := 1) (lo := 0) (hi := 6) (by decide) (by decide)) ⟨(Nat.le_of_ble_eq_true rfl), (Nat.le_of_ble_eq_true rfl), (Nat.le_of_ble_eq_true rfl), (Nat.le_of_ble_eq_true rfl)⟩ ?_
  show sh_cW _ _ (_, _, []) K L _ _ _ _ _
  refine sh_cp (fun w Z k => sh_iload_n dc_Hall_make_14 rfl rfl k) ?_
  refine sh_cp (fun w Z k => sh_iconst (v := 0) dc_Hall_make_15 (by decide) k) ?_
  refine sh_cp (fun w Z k => sh_iload_n dc_Hall_make_16 rfl rfl k) ?_
  refine sh_ccall (fun w hw => sh_stat (As := [.int 1]) dc_Hall_make_17 lm_Hall_greatestFor ln_Hall_43 wd_264 wd_49 rfl rfl (Nat.le_of_ble_eq_true rfl)) (ct_Hall_greatestFor_6 (x := 1) v0_17) ⟨(Nat.le_of_ble_eq_true rfl), (Nat.le_of_ble_eq_true rfl), (Nat.le_of_ble_eq_true rfl), (Nat.le_of_ble_eq_true rfl)⟩ ?_
  show sh_cW _ _ (_, _, [.int 0, .int 0, .int z]) K L _ _ _ _ _
  refine sh_ccall (fun w hw => sh_stat (As := [.int z, .int 0, .int 0]) dc_Hall_make_20 lm_Hall_checkNumber ln_Hall_39 wd_191 wd_49 rfl rfl (Nat.le_of_ble_eq_true rfl)) (ct_Hall_checkNumber_2 (x := z) (lo := 0) (hi := 0) c1_20 c2_20) ⟨(Nat.le_of_ble_eq_true rfl), (Nat.le_of_ble_eq_true rfl), (Nat.le_of_ble_eq_true rfl), (Nat.le_of_ble_eq_true rfl)⟩ ?_
  show sh_cW _ _ (_, _, []) K L _ _ _ _ _
  refine sh_cp (fun w Z k => sh_iload_n dc_Hall_make_23 rfl rfl k) ?_
  refine sh_cp (fun w Z k => sh_bipush (v := 6) dc_Hall_make_24 (by decide) k) ?_
  refine sh_cp (fun w Z k => sh_icmp_ne (tgt := 37) dc_Hall_make_26 (by decide) (fun _ => k) (fun z => absurd z (by decide))) ?_
  refine sh_cp (fun w Z k => sh_anull dc_Hall_make_37 k) ?_
  refine sh_cp (fun w Z k => sh_astoreN dc_Hall_make_38 (by decide) k) ?_
  refine sh_cp (fun w Z k => sh_aload_n dc_Hall_make_40 rfl rfl k) ?_
  refine sh_cget 0 1 dc_Hall_make_41 cw_o0 rfl (by decide) fl_Hall_20 rfl rfl rfl rfl ?_
  refine sh_cp (fun w Z k => sh_iload_n dc_Hall_make_44 rfl rfl k) ?_
  refine sh_caald 2 (k := s) dc_Hall_make_45 cw_o2 rfl rfl (by omega) (by decide) ?_
  refine sh_ctv (if_neg c3_45) ?_
  refine sh_cp (fun w Z k => sh_ifnull dc_Hall_make_46 k) ?_
  exact sh_ct (fun w => sh_thr (lx := 2) (tx := "the sync is there") dc_Hall_make_49 dc_Hall_make_52 (Or.inl ⟨dc_Hall_make_53, rfl⟩) dc_Hall_make_55 dc_Hall_make_58 lx_Hall_51_55 (by decide +kernel) rfl (by decide) (by decide) (by decide) (by decide))
theorem ct_Hall_make_k1_3 {A : Nat → Nat} {K : sh_II} {L : sh_DD} {s : Nat} {z : Int32} (hs : s < 8) (v0_17 : (1 : Int32).toInt < 2 ∨ 6 < (1 : Int32).toInt) (c1_20 : ¬ z < 0) (c2_20 : ¬ z ≤ 0) : sh_cM A md_Hall_make [.ref (A 0), .int (nI s), .int 1, .int z] K L (.inr 1) K L := by
  refine sh_cp (fun w Z k => sh_iload_n dc_Hall_make_0 rfl rfl k) ?_
  refine sh_cp (fun w Z k => sh_iconst (v := 0) dc_Hall_make_1 (by decide) k) ?_
  refine sh_cp (fun w Z k => sh_bipush (v := 7) dc_Hall_make_2 (by decide) k) ?_
  refine sh_ccall (fun w hw => sh_stat (As := [.int (nI s), .int 0, .int 7]) dc_Hall_make_4 lm_Hall_checkNumber ln_Hall_39 wd_191 wd_49 rfl rfl (Nat.le_of_ble_eq_true rfl)) (ct_Hall_checkNumber_2 (x := nI s) (lo := 0) (hi := 7) (nI_pos (by omega)) (sp_le7 hs)) ⟨(Nat.le_of_ble_eq_true rfl), (Nat.le_of_ble_eq_true rfl), (Nat.le_of_ble_eq_true rfl), (Nat.le_of_ble_eq_true rfl)⟩ ?_
  show sh_cW _ _ (_, _, []) K L _ _ _ _ _
  refine sh_cp (fun w Z k => sh_iload_n dc_Hall_make_7 rfl rfl k) ?_
  refine sh_cp (fun w Z k => sh_iconst (v := 0) dc_Hall_make_8 (by decide) k) ?_
  refine sh_cp (fun w Z k => sh_bipush (v := 6) dc_Hall_make_9 (by decide) k) ?_
  refine sh_ccall (fun w hw => sh_stat (As := [.int 1, .int 0, .int 6]) dc_Hall_make_11 lm_Hall_checkNumber ln_Hall_39 wd_191 wd_49 rfl rfl (Nat.le_of_ble_eq_true rfl)) (ct_Hall_checkNumber_2 (x := 1) (lo := 0) (hi := 6) (by decide) (by decide)) ⟨(Nat.le_of_ble_eq_true rfl), (Nat.le_of_ble_eq_true rfl), (Nat.le_of_ble_eq_true rfl), (Nat.le_of_ble_eq_true rfl)⟩ ?_
  show sh_cW _ _ (_, _, []) K L _ _ _ _ _
  refine sh_cp (fun w Z k => sh_iload_n dc_Hall_make_14 rfl rfl k) ?_
  refine sh_cp (fun w Z k => sh_iconst (v := 0) dc_Hall_make_15 (by decide) k) ?_
  refine sh_cp (fun w Z k => sh_iload_n dc_Hall_make_16 rfl rfl k) ?_
  refine sh_ccall (fun w hw => sh_stat (As := [.int 1]) dc_Hall_make_17 lm_Hall_greatestFor ln_Hall_43 wd_264 wd_49 rfl rfl (Nat.le_of_ble_eq_true rfl)) (ct_Hall_greatestFor_6 (x := 1) v0_17) ⟨(Nat.le_of_ble_eq_true rfl), (Nat.le_of_ble_eq_true rfl), (Nat.le_of_ble_eq_true rfl), (Nat.le_of_ble_eq_true rfl)⟩ ?_
  show sh_cW _ _ (_, _, [.int 0, .int 0, .int z]) K L _ _ _ _ _
  exact sh_ccallT (fun w hw => sh_stat (As := [.int z, .int 0, .int 0]) dc_Hall_make_20 lm_Hall_checkNumber ln_Hall_39 wd_191 wd_49 rfl rfl (Nat.le_of_ble_eq_true rfl)) (ct_Hall_checkNumber_3 (x := z) (lo := 0) (hi := 0) c1_20 c2_20) ⟨(Nat.le_of_ble_eq_true rfl), (Nat.le_of_ble_eq_true rfl), (Nat.le_of_ble_eq_true rfl), (Nat.le_of_ble_eq_true rfl)⟩ rfl
theorem ct_Hall_make_k2_1 {A : Nat → Nat} {K : sh_II} {L : sh_DD} {s : Nat} {z : Int32} (hs : s < 8) (c0_20 : z < 0) : sh_cM A md_Hall_make [.ref (A 0), .int (nI s), .int 2, .int z] K L (.inr 1) K L := by
  refine sh_cp (fun w Z k => sh_iload_n dc_Hall_make_0 rfl rfl k) ?_
  refine sh_cp (fun w Z k => sh_iconst (v := 0) dc_Hall_make_1 (by decide) k) ?_
  refine sh_cp (fun w Z k => sh_bipush (v := 7) dc_Hall_make_2 (by decide) k) ?_
  refine sh_ccall (fun w hw => sh_stat (As := [.int (nI s), .int 0, .int 7]) dc_Hall_make_4 lm_Hall_checkNumber ln_Hall_39 wd_191 wd_49 rfl rfl (Nat.le_of_ble_eq_true rfl)) (ct_Hall_checkNumber_2 (x := nI s) (lo := 0) (hi := 7) (nI_pos (by omega)) (sp_le7 hs)) ⟨(Nat.le_of_ble_eq_true rfl), (Nat.le_of_ble_eq_true rfl), (Nat.le_of_ble_eq_true rfl), (Nat.le_of_ble_eq_true rfl)⟩ ?_
  show sh_cW _ _ (_, _, []) K L _ _ _ _ _
  refine sh_cp (fun w Z k => sh_iload_n dc_Hall_make_7 rfl rfl k) ?_
  refine sh_cp (fun w Z k => sh_iconst (v := 0) dc_Hall_make_8 (by decide) k) ?_
  refine sh_cp (fun w Z k => sh_bipush (v := 6) dc_Hall_make_9 (by decide) k) ?_
  refine sh_ccall (fun w hw => sh_stat (As := [.int 2, .int 0, .int 6]) dc_Hall_make_11 lm_Hall_checkNumber ln_Hall_39 wd_191 wd_49 rfl rfl (Nat.le_of_ble_eq_true rfl)) (ct_Hall_checkNumber_2 (x := 2) (lo := 0) (hi := 6) (by decide) (by decide)) ⟨(Nat.le_of_ble_eq_true rfl), (Nat.le_of_ble_eq_true rfl), (Nat.le_of_ble_eq_true rfl), (Nat.le_of_ble_eq_true rfl)⟩ ?_
  show sh_cW _ _ (_, _, []) K L _ _ _ _ _
  refine sh_cp (fun w Z k => sh_iload_n dc_Hall_make_14 rfl rfl k) ?_
  refine sh_cp (fun w Z k => sh_iconst (v := 0) dc_Hall_make_15 (by decide) k) ?_
  refine sh_cp (fun w Z k => sh_iload_n dc_Hall_make_16 rfl rfl k) ?_
  refine sh_ccall (fun w hw => sh_stat (As := [.int 2]) dc_Hall_make_17 lm_Hall_greatestFor ln_Hall_43 wd_264 wd_49 rfl rfl (Nat.le_of_ble_eq_true rfl)) (ct_Hall_greatestFor_1 (x := 2) (by decide)) ⟨(Nat.le_of_ble_eq_true rfl), (Nat.le_of_ble_eq_true rfl), (Nat.le_of_ble_eq_true rfl), (Nat.le_of_ble_eq_true rfl)⟩ ?_
  show sh_cW _ _ (_, _, [.int 5, .int 0, .int z]) K L _ _ _ _ _
  exact sh_ccallT (fun w hw => sh_stat (As := [.int z, .int 0, .int 5]) dc_Hall_make_20 lm_Hall_checkNumber ln_Hall_39 wd_191 wd_49 rfl rfl (Nat.le_of_ble_eq_true rfl)) (ct_Hall_checkNumber_1 (x := z) (lo := 0) (hi := 5) c0_20) ⟨(Nat.le_of_ble_eq_true rfl), (Nat.le_of_ble_eq_true rfl), (Nat.le_of_ble_eq_true rfl), (Nat.le_of_ble_eq_true rfl)⟩ rfl
theorem ct_Hall_make_k2_2 {A : Nat → Nat} {K : sh_II} {L : sh_DD} {s : Nat} {z : Int32} (hs : s < 8) (c0_20 : ¬ z < 0) (c1_20 : z ≤ 5) (c2_45 : ¬ cw_cl (K 12 s) = 0) : sh_cM A md_Hall_make [.ref (A 0), .int (nI s), .int 2, .int z] K L (.inr 3) K L := by
  refine sh_cp (fun w Z k => sh_iload_n dc_Hall_make_0 rfl rfl k) ?_
  refine sh_cp (fun w Z k => sh_iconst (v := 0) dc_Hall_make_1 (by decide) k) ?_
  refine sh_cp (fun w Z k => sh_bipush (v := 7) dc_Hall_make_2 (by decide) k) ?_
  refine sh_ccall (fun w hw => sh_stat (As := [.int (nI s), .int 0, .int 7]) dc_Hall_make_4 lm_Hall_checkNumber ln_Hall_39 wd_191 wd_49 rfl rfl (Nat.le_of_ble_eq_true rfl)) (ct_Hall_checkNumber_2 (x := nI s) (lo := 0) (hi := 7) (nI_pos (by omega)) (sp_le7 hs)) ⟨(Nat.le_of_ble_eq_true rfl), (Nat.le_of_ble_eq_true rfl), (Nat.le_of_ble_eq_true rfl), (Nat.le_of_ble_eq_true rfl)⟩ ?_
  show sh_cW _ _ (_, _, []) K L _ _ _ _ _
  refine sh_cp (fun w Z k => sh_iload_n dc_Hall_make_7 rfl rfl k) ?_
  refine sh_cp (fun w Z k => sh_iconst (v := 0) dc_Hall_make_8 (by decide) k) ?_
  refine sh_cp (fun w Z k => sh_bipush (v := 6) dc_Hall_make_9 (by decide) k) ?_
  refine sh_ccall (fun w hw => sh_stat (As := [.int 2, .int 0, .int 6]) dc_Hall_make_11 lm_Hall_checkNumber ln_Hall_39 wd_191 wd_49 rfl rfl (Nat.le_of_ble_eq_true rfl)) (ct_Hall_checkNumber_2 (x := 2) (lo := 0) (hi := 6) (by decide) (by decide)) ⟨(Nat.le_of_ble_eq_true rfl), (Nat.le_of_ble_eq_true rfl), (Nat.le_of_ble_eq_true rfl), (Nat.le_of_ble_eq_true rfl)⟩ ?_
  show sh_cW _ _ (_, _, []) K L _ _ _ _ _
  refine sh_cp (fun w Z k => sh_iload_n dc_Hall_make_14 rfl rfl k) ?_
  refine sh_cp (fun w Z k => sh_iconst (v := 0) dc_Hall_make_15 (by decide) k) ?_
  refine sh_cp (fun w Z k => sh_iload_n dc_Hall_make_16 rfl rfl k) ?_
  refine sh_ccall (fun w hw => sh_stat (As := [.int 2]) dc_Hall_make_17 lm_Hall_greatestFor ln_Hall_43 wd_264 wd_49 rfl rfl (Nat.le_of_ble_eq_true rfl)) (ct_Hall_greatestFor_1 (x := 2) (by decide)) ⟨(Nat.le_of_ble_eq_true rfl), (Nat.le_of_ble_eq_true rfl), (Nat.le_of_ble_eq_true rfl), (Nat.le_of_ble_eq_true rfl)⟩ ?_
  show sh_cW _ _ (_, _, [.int 5, .int 0, .int z]) K L _ _ _ _ _
  refine sh_ccall (fun w hw => sh_stat (As := [.int z, .int 0, .int 5]) dc_Hall_make_20 lm_Hall_checkNumber ln_Hall_39 wd_191 wd_49 rfl rfl (Nat.le_of_ble_eq_true rfl)) (ct_Hall_checkNumber_2 (x := z) (lo := 0) (hi := 5) c0_20 c1_20) ⟨(Nat.le_of_ble_eq_true rfl), (Nat.le_of_ble_eq_true rfl), (Nat.le_of_ble_eq_true rfl), (Nat.le_of_ble_eq_true rfl)⟩ ?_
  show sh_cW _ _ (_, _, []) K L _ _ _ _ _
  refine sh_cp (fun w Z k => sh_iload_n dc_Hall_make_23 rfl rfl k) ?_
  refine sh_cp (fun w Z k => sh_bipush (v := 6) dc_Hall_make_24 (by decide) k) ?_
  refine sh_cp (fun w Z k => sh_icmp_ne (tgt := 37) dc_Hall_make_26 (by decide) (fun _ => k) (fun z => absurd z (by decide))) ?_
  refine sh_cp (fun w Z k => sh_anull dc_Hall_make_37 k) ?_
  refine sh_cp (fun w Z k => sh_astoreN dc_Hall_make_38 (by decide) k) ?_
  refine sh_cp (fun w Z k => sh_aload_n dc_Hall_make_40 rfl rfl k) ?_
  refine sh_cget 0 1 dc_Hall_make_41 cw_o0 rfl (by decide) fl_Hall_20 rfl rfl rfl rfl ?_
  refine sh_cp (fun w Z k => sh_iload_n dc_Hall_make_44 rfl rfl k) ?_
  refine sh_caald 2 (k := s) dc_Hall_make_45 cw_o2 rfl rfl (by omega) (by decide) ?_
  refine sh_ctv (if_neg c2_45) ?_
  refine sh_cp (fun w Z k => sh_ifnull dc_Hall_make_46 k) ?_
  exact sh_ct (fun w => sh_thr (lx := 2) (tx := "the sync is there") dc_Hall_make_49 dc_Hall_make_52 (Or.inl ⟨dc_Hall_make_53, rfl⟩) dc_Hall_make_55 dc_Hall_make_58 lx_Hall_51_55 (by decide +kernel) rfl (by decide) (by decide) (by decide) (by decide))
theorem ct_Hall_make_k2_3 {A : Nat → Nat} {K : sh_II} {L : sh_DD} {s : Nat} {z : Int32} (hs : s < 8) (c0_20 : ¬ z < 0) (c1_20 : ¬ z ≤ 5) : sh_cM A md_Hall_make [.ref (A 0), .int (nI s), .int 2, .int z] K L (.inr 1) K L := by
  refine sh_cp (fun w Z k => sh_iload_n dc_Hall_make_0 rfl rfl k) ?_
  refine sh_cp (fun w Z k => sh_iconst (v := 0) dc_Hall_make_1 (by decide) k) ?_
  refine sh_cp (fun w Z k => sh_bipush (v := 7) dc_Hall_make_2 (by decide) k) ?_
  refine sh_ccall (fun w hw => sh_stat (As := [.int (nI s), .int 0, .int 7]) dc_Hall_make_4 lm_Hall_checkNumber ln_Hall_39 wd_191 wd_49 rfl rfl (Nat.le_of_ble_eq_true rfl)) (ct_Hall_checkNumber_2 (x := nI s) (lo := 0) (hi := 7) (nI_pos (by omega)) (sp_le7 hs)) ⟨(Nat.le_of_ble_eq_true rfl), (Nat.le_of_ble_eq_true rfl), (Nat.le_of_ble_eq_true rfl), (Nat.le_of_ble_eq_true rfl)⟩ ?_
  show sh_cW _ _ (_, _, []) K L _ _ _ _ _
  refine sh_cp (fun w Z k => sh_iload_n dc_Hall_make_7 rfl rfl k) ?_
  refine sh_cp (fun w Z k => sh_iconst (v := 0) dc_Hall_make_8 (by decide) k) ?_
  refine sh_cp (fun w Z k => sh_bipush (v := 6) dc_Hall_make_9 (by decide) k) ?_
  refine sh_ccall (fun w hw => sh_stat (As := [.int 2, .int 0, .int 6]) dc_Hall_make_11 lm_Hall_checkNumber ln_Hall_39 wd_191 wd_49 rfl rfl (Nat.le_of_ble_eq_true rfl)) (ct_Hall_checkNumber_2 (x := 2) (lo := 0) (hi := 6) (by decide) (by decide)) ⟨(Nat.le_of_ble_eq_true rfl), (Nat.le_of_ble_eq_true rfl), (Nat.le_of_ble_eq_true rfl), (Nat.le_of_ble_eq_true rfl)⟩ ?_
  show sh_cW _ _ (_, _, []) K L _ _ _ _ _
  refine sh_cp (fun w Z k => sh_iload_n dc_Hall_make_14 rfl rfl k) ?_
  refine sh_cp (fun w Z k => sh_iconst (v := 0) dc_Hall_make_15 (by decide) k) ?_
  refine sh_cp (fun w Z k => sh_iload_n dc_Hall_make_16 rfl rfl k) ?_
  refine sh_ccall (fun w hw => sh_stat (As := [.int 2]) dc_Hall_make_17 lm_Hall_greatestFor ln_Hall_43 wd_264 wd_49 rfl rfl (Nat.le_of_ble_eq_true rfl)) (ct_Hall_greatestFor_1 (x := 2) (by decide)) ⟨(Nat.le_of_ble_eq_true rfl), (Nat.le_of_ble_eq_true rfl), (Nat.le_of_ble_eq_true rfl), (Nat.le_of_ble_eq_true rfl)⟩ ?_
  show sh_cW _ _ (_, _, [.int 5, .int 0, .int z]) K L _ _ _ _ _
  exact sh_ccallT (fun w hw => sh_stat (As := [.int z, .int 0, .int 5]) dc_Hall_make_20 lm_Hall_checkNumber ln_Hall_39 wd_191 wd_49 rfl rfl (Nat.le_of_ble_eq_true rfl)) (ct_Hall_checkNumber_3 (x := z) (lo := 0) (hi := 5) c0_20 c1_20) ⟨(Nat.le_of_ble_eq_true rfl), (Nat.le_of_ble_eq_true rfl), (Nat.le_of_ble_eq_true rfl), (Nat.le_of_ble_eq_true rfl)⟩ rfl
theorem ct_Hall_make_k3_1 {A : Nat → Nat} {K : sh_II} {L : sh_DD} {s : Nat} {z : Int32} (hs : s < 8) (c0_20 : z < 0) : sh_cM A md_Hall_make [.ref (A 0), .int (nI s), .int 3, .int z] K L (.inr 1) K L := by
  refine sh_cp (fun w Z k => sh_iload_n dc_Hall_make_0 rfl rfl k) ?_
  refine sh_cp (fun w Z k => sh_iconst (v := 0) dc_Hall_make_1 (by decide) k) ?_
  refine sh_cp (fun w Z k => sh_bipush (v := 7) dc_Hall_make_2 (by decide) k) ?_
  refine sh_ccall (fun w hw => sh_stat (As := [.int (nI s), .int 0, .int 7]) dc_Hall_make_4 lm_Hall_checkNumber ln_Hall_39 wd_191 wd_49 rfl rfl (Nat.le_of_ble_eq_true rfl)) (ct_Hall_checkNumber_2 (x := nI s) (lo := 0) (hi := 7) (nI_pos (by omega)) (sp_le7 hs)) ⟨(Nat.le_of_ble_eq_true rfl), (Nat.le_of_ble_eq_true rfl), (Nat.le_of_ble_eq_true rfl), (Nat.le_of_ble_eq_true rfl)⟩ ?_
  show sh_cW _ _ (_, _, []) K L _ _ _ _ _
  refine sh_cp (fun w Z k => sh_iload_n dc_Hall_make_7 rfl rfl k) ?_
  refine sh_cp (fun w Z k => sh_iconst (v := 0) dc_Hall_make_8 (by decide) k) ?_
  refine sh_cp (fun w Z k => sh_bipush (v := 6) dc_Hall_make_9 (by decide) k) ?_
  refine sh_ccall (fun w hw => sh_stat (As := [.int 3, .int 0, .int 6]) dc_Hall_make_11 lm_Hall_checkNumber ln_Hall_39 wd_191 wd_49 rfl rfl (Nat.le_of_ble_eq_true rfl)) (ct_Hall_checkNumber_2 (x := 3) (lo := 0) (hi := 6) (by decide) (by decide)) ⟨(Nat.le_of_ble_eq_true rfl), (Nat.le_of_ble_eq_true rfl), (Nat.le_of_ble_eq_true rfl), (Nat.le_of_ble_eq_true rfl)⟩ ?_
  show sh_cW _ _ (_, _, []) K L _ _ _ _ _
  refine sh_cp (fun w Z k => sh_iload_n dc_Hall_make_14 rfl rfl k) ?_
  refine sh_cp (fun w Z k => sh_iconst (v := 0) dc_Hall_make_15 (by decide) k) ?_
  refine sh_cp (fun w Z k => sh_iload_n dc_Hall_make_16 rfl rfl k) ?_
  refine sh_ccall (fun w hw => sh_stat (As := [.int 3]) dc_Hall_make_17 lm_Hall_greatestFor ln_Hall_43 wd_264 wd_49 rfl rfl (Nat.le_of_ble_eq_true rfl)) (ct_Hall_greatestFor_2 (x := 3) (by decide)) ⟨(Nat.le_of_ble_eq_true rfl), (Nat.le_of_ble_eq_true rfl), (Nat.le_of_ble_eq_true rfl), (Nat.le_of_ble_eq_true rfl)⟩ ?_
  show sh_cW _ _ (_, _, [.int 5, .int 0, .int z]) K L _ _ _ _ _
  exact sh_ccallT (fun w hw => sh_stat (As := [.int z, .int 0, .int 5]) dc_Hall_make_20 lm_Hall_checkNumber ln_Hall_39 wd_191 wd_49 rfl rfl (Nat.le_of_ble_eq_true rfl)) (ct_Hall_checkNumber_1 (x := z) (lo := 0) (hi := 5) c0_20) ⟨(Nat.le_of_ble_eq_true rfl), (Nat.le_of_ble_eq_true rfl), (Nat.le_of_ble_eq_true rfl), (Nat.le_of_ble_eq_true rfl)⟩ rfl
theorem ct_Hall_make_k3_2 {A : Nat → Nat} {K : sh_II} {L : sh_DD} {s : Nat} {z : Int32} (hs : s < 8) (c0_20 : ¬ z < 0) (c1_20 : z ≤ 5) (c2_45 : ¬ cw_cl (K 12 s) = 0) : sh_cM A md_Hall_make [.ref (A 0), .int (nI s), .int 3, .int z] K L (.inr 3) K L := by
  refine sh_cp (fun w Z k => sh_iload_n dc_Hall_make_0 rfl rfl k) ?_
  refine sh_cp (fun w Z k => sh_iconst (v := 0) dc_Hall_make_1 (by decide) k) ?_
  refine sh_cp (fun w Z k => sh_bipush (v := 7) dc_Hall_make_2 (by decide) k) ?_
  refine sh_ccall (fun w hw => sh_stat (As := [.int (nI s), .int 0, .int 7]) dc_Hall_make_4 lm_Hall_checkNumber ln_Hall_39 wd_191 wd_49 rfl rfl (Nat.le_of_ble_eq_true rfl)) (ct_Hall_checkNumber_2 (x := nI s) (lo := 0) (hi := 7) (nI_pos (by omega)) (sp_le7 hs)) ⟨(Nat.le_of_ble_eq_true rfl), (Nat.le_of_ble_eq_true rfl), (Nat.le_of_ble_eq_true rfl), (Nat.le_of_ble_eq_true rfl)⟩ ?_
  show sh_cW _ _ (_, _, []) K L _ _ _ _ _
  refine sh_cp (fun w Z k => sh_iload_n dc_Hall_make_7 rfl rfl k) ?_
  refine sh_cp (fun w Z k => sh_iconst (v := 0) dc_Hall_make_8 (by decide) k) ?_
  refine sh_cp (fun w Z k => sh_bipush (v := 6) dc_Hall_make_9 (by decide) k) ?_
  refine sh_ccall (fun w hw => sh_stat (As := [.int 3, .int 0, .int 6]) dc_Hall_make_11 lm_Hall_checkNumber ln_Hall_39 wd_191 wd_49 rfl rfl (Nat.le_of_ble_eq_true rfl)) (ct_Hall_checkNumber_2 (x := 3) (lo := 0) (hi := 6) (by decide) (by decide)) ⟨(Nat.le_of_ble_eq_true rfl), (Nat.le_of_ble_eq_true rfl), (Nat.le_of_ble_eq_true rfl), (Nat.le_of_ble_eq_true rfl)⟩ ?_
  show sh_cW _ _ (_, _, []) K L _ _ _ _ _
  refine sh_cp (fun w Z k => sh_iload_n dc_Hall_make_14 rfl rfl k) ?_
  refine sh_cp (fun w Z k => sh_iconst (v := 0) dc_Hall_make_15 (by decide) k) ?_
  refine sh_cp (fun w Z k => sh_iload_n dc_Hall_make_16 rfl rfl k) ?_
  refine sh_ccall (fun w hw => sh_stat (As := [.int 3]) dc_Hall_make_17 lm_Hall_greatestFor ln_Hall_43 wd_264 wd_49 rfl rfl (Nat.le_of_ble_eq_true rfl)) (ct_Hall_greatestFor_2 (x := 3) (by decide)) ⟨(Nat.le_of_ble_eq_true rfl), (Nat.le_of_ble_eq_true rfl), (Nat.le_of_ble_eq_true rfl), (Nat.le_of_ble_eq_true rfl)⟩ ?_
  show sh_cW _ _ (_, _, [.int 5, .int 0, .int z]) K L _ _ _ _ _
  refine sh_ccall (fun w hw => sh_stat (As := [.int z, .int 0, .int 5]) dc_Hall_make_20 lm_Hall_checkNumber ln_Hall_39 wd_191 wd_49 rfl rfl (Nat.le_of_ble_eq_true rfl)) (ct_Hall_checkNumber_2 (x := z) (lo := 0) (hi := 5) c0_20 c1_20) ⟨(Nat.le_of_ble_eq_true rfl), (Nat.le_of_ble_eq_true rfl), (Nat.le_of_ble_eq_true rfl), (Nat.le_of_ble_eq_true rfl)⟩ ?_
  show sh_cW _ _ (_, _, []) K L _ _ _ _ _
  refine sh_cp (fun w Z k => sh_iload_n dc_Hall_make_23 rfl rfl k) ?_
  refine sh_cp (fun w Z k => sh_bipush (v := 6) dc_Hall_make_24 (by decide) k) ?_
  refine sh_cp (fun w Z k => sh_icmp_ne (tgt := 37) dc_Hall_make_26 (by decide) (fun _ => k) (fun z => absurd z (by decide))) ?_
  refine sh_cp (fun w Z k => sh_anull dc_Hall_make_37 k) ?_
  refine sh_cp (fun w Z k => sh_astoreN dc_Hall_make_38 (by decide) k) ?_
  refine sh_cp (fun w Z k => sh_aload_n dc_Hall_make_40 rfl rfl k) ?_
  refine sh_cget 0 1 dc_Hall_make_41 cw_o0 rfl (by decide) fl_Hall_20 rfl rfl rfl rfl ?_
  refine sh_cp (fun w Z k => sh_iload_n dc_Hall_make_44 rfl rfl k) ?_
  refine sh_caald 2 (k := s) dc_Hall_make_45 cw_o2 rfl rfl (by omega) (by decide) ?_
  refine sh_ctv (if_neg c2_45) ?_
  refine sh_cp (fun w Z k => sh_ifnull dc_Hall_make_46 k) ?_
  exact sh_ct (fun w => sh_thr (lx := 2) (tx := "the sync is there") dc_Hall_make_49 dc_Hall_make_52 (Or.inl ⟨dc_Hall_make_53, rfl⟩) dc_Hall_make_55 dc_Hall_make_58 lx_Hall_51_55 (by decide +kernel) rfl (by decide) (by decide) (by decide) (by decide))
theorem ct_Hall_make_k3_3 {A : Nat → Nat} {K : sh_II} {L : sh_DD} {s : Nat} {z : Int32} (hs : s < 8) (c0_20 : ¬ z < 0) (c1_20 : ¬ z ≤ 5) : sh_cM A md_Hall_make [.ref (A 0), .int (nI s), .int 3, .int z] K L (.inr 1) K L := by
  refine sh_cp (fun w Z k => sh_iload_n dc_Hall_make_0 rfl rfl k) ?_
  refine sh_cp (fun w Z k => sh_iconst (v := 0) dc_Hall_make_1 (by decide) k) ?_
  refine sh_cp (fun w Z k => sh_bipush (v := 7) dc_Hall_make_2 (by decide) k) ?_
  refine sh_ccall (fun w hw => sh_stat (As := [.int (nI s), .int 0, .int 7]) dc_Hall_make_4 lm_Hall_checkNumber ln_Hall_39 wd_191 wd_49 rfl rfl (Nat.le_of_ble_eq_true rfl)) (ct_Hall_checkNumber_2 (x := nI s) (lo := 0) (hi := 7) (nI_pos (by omega)) (sp_le7 hs)) ⟨(Nat.le_of_ble_eq_true rfl), (Nat.le_of_ble_eq_true rfl), (Nat.le_of_ble_eq_true rfl), (Nat.le_of_ble_eq_true rfl)⟩ ?_
  show sh_cW _ _ (_, _, []) K L _ _ _ _ _
  refine sh_cp (fun w Z k => sh_iload_n dc_Hall_make_7 rfl rfl k) ?_
  refine sh_cp (fun w Z k => sh_iconst (v := 0) dc_Hall_make_8 (by decide) k) ?_
  refine sh_cp (fun w Z k => sh_bipush (v := 6) dc_Hall_make_9 (by decide) k) ?_
  refine sh_ccall (fun w hw => sh_stat (As := [.int 3, .int 0, .int 6]) dc_Hall_make_11 lm_Hall_checkNumber ln_Hall_39 wd_191 wd_49 rfl rfl (Nat.le_of_ble_eq_true rfl)) (ct_Hall_checkNumber_2 (x := 3) (lo := 0) (hi := 6) (by decide) (by decide)) ⟨(Nat.le_of_ble_eq_true rfl), (Nat.le_of_ble_eq_true rfl), (Nat.le_of_ble_eq_true rfl), (Nat.le_of_ble_eq_true rfl)⟩ ?_
  show sh_cW _ _ (_, _, []) K L _ _ _ _ _
  refine sh_cp (fun w Z k => sh_iload_n dc_Hall_make_14 rfl rfl k) ?_
  refine sh_cp (fun w Z k => sh_iconst (v := 0) dc_Hall_make_15 (by decide) k) ?_
  refine sh_cp (fun w Z k => sh_iload_n dc_Hall_make_16 rfl rfl k) ?_
  refine sh_ccall (fun w hw => sh_stat (As := [.int 3]) dc_Hall_make_17 lm_Hall_greatestFor ln_Hall_43 wd_264 wd_49 rfl rfl (Nat.le_of_ble_eq_true rfl)) (ct_Hall_greatestFor_2 (x := 3) (by decide)) ⟨(Nat.le_of_ble_eq_true rfl), (Nat.le_of_ble_eq_true rfl), (Nat.le_of_ble_eq_true rfl), (Nat.le_of_ble_eq_true rfl)⟩ ?_
  show sh_cW _ _ (_, _, [.int 5, .int 0, .int z]) K L _ _ _ _ _
  exact sh_ccallT (fun w hw => sh_stat (As := [.int z, .int 0, .int 5]) dc_Hall_make_20 lm_Hall_checkNumber ln_Hall_39 wd_191 wd_49 rfl rfl (Nat.le_of_ble_eq_true rfl)) (ct_Hall_checkNumber_3 (x := z) (lo := 0) (hi := 5) c0_20 c1_20) ⟨(Nat.le_of_ble_eq_true rfl), (Nat.le_of_ble_eq_true rfl), (Nat.le_of_ble_eq_true rfl), (Nat.le_of_ble_eq_true rfl)⟩ rfl
theorem ct_Hall_make_k4_1 {A : Nat → Nat} {K : sh_II} {L : sh_DD} {s : Nat} {z : Int32} (hs : s < 8) (c0_20 : z < 0) : sh_cM A md_Hall_make [.ref (A 0), .int (nI s), .int 4, .int z] K L (.inr 1) K L := by
  refine sh_cp (fun w Z k => sh_iload_n dc_Hall_make_0 rfl rfl k) ?_
  refine sh_cp (fun w Z k => sh_iconst (v := 0) dc_Hall_make_1 (by decide) k) ?_
  refine sh_cp (fun w Z k => sh_bipush (v := 7) dc_Hall_make_2 (by decide) k) ?_
  refine sh_ccall (fun w hw => sh_stat (As := [.int (nI s), .int 0, .int 7]) dc_Hall_make_4 lm_Hall_checkNumber ln_Hall_39 wd_191 wd_49 rfl rfl (Nat.le_of_ble_eq_true rfl)) (ct_Hall_checkNumber_2 (x := nI s) (lo := 0) (hi := 7) (nI_pos (by omega)) (sp_le7 hs)) ⟨(Nat.le_of_ble_eq_true rfl), (Nat.le_of_ble_eq_true rfl), (Nat.le_of_ble_eq_true rfl), (Nat.le_of_ble_eq_true rfl)⟩ ?_
  show sh_cW _ _ (_, _, []) K L _ _ _ _ _
  refine sh_cp (fun w Z k => sh_iload_n dc_Hall_make_7 rfl rfl k) ?_
  refine sh_cp (fun w Z k => sh_iconst (v := 0) dc_Hall_make_8 (by decide) k) ?_
  refine sh_cp (fun w Z k => sh_bipush (v := 6) dc_Hall_make_9 (by decide) k) ?_
  refine sh_ccall (fun w hw => sh_stat (As := [.int 4, .int 0, .int 6]) dc_Hall_make_11 lm_Hall_checkNumber ln_Hall_39 wd_191 wd_49 rfl rfl (Nat.le_of_ble_eq_true rfl)) (ct_Hall_checkNumber_2 (x := 4) (lo := 0) (hi := 6) (by decide) (by decide)) ⟨(Nat.le_of_ble_eq_true rfl), (Nat.le_of_ble_eq_true rfl), (Nat.le_of_ble_eq_true rfl), (Nat.le_of_ble_eq_true rfl)⟩ ?_
  show sh_cW _ _ (_, _, []) K L _ _ _ _ _
  refine sh_cp (fun w Z k => sh_iload_n dc_Hall_make_14 rfl rfl k) ?_
  refine sh_cp (fun w Z k => sh_iconst (v := 0) dc_Hall_make_15 (by decide) k) ?_
  refine sh_cp (fun w Z k => sh_iload_n dc_Hall_make_16 rfl rfl k) ?_
  refine sh_ccall (fun w hw => sh_stat (As := [.int 4]) dc_Hall_make_17 lm_Hall_greatestFor ln_Hall_43 wd_264 wd_49 rfl rfl (Nat.le_of_ble_eq_true rfl)) (ct_Hall_greatestFor_3 (x := 4) (by decide)) ⟨(Nat.le_of_ble_eq_true rfl), (Nat.le_of_ble_eq_true rfl), (Nat.le_of_ble_eq_true rfl), (Nat.le_of_ble_eq_true rfl)⟩ ?_
  show sh_cW _ _ (_, _, [.int 5, .int 0, .int z]) K L _ _ _ _ _
  exact sh_ccallT (fun w hw => sh_stat (As := [.int z, .int 0, .int 5]) dc_Hall_make_20 lm_Hall_checkNumber ln_Hall_39 wd_191 wd_49 rfl rfl (Nat.le_of_ble_eq_true rfl)) (ct_Hall_checkNumber_1 (x := z) (lo := 0) (hi := 5) c0_20) ⟨(Nat.le_of_ble_eq_true rfl), (Nat.le_of_ble_eq_true rfl), (Nat.le_of_ble_eq_true rfl), (Nat.le_of_ble_eq_true rfl)⟩ rfl
theorem ct_Hall_make_k4_2 {A : Nat → Nat} {K : sh_II} {L : sh_DD} {s : Nat} {z : Int32} (hs : s < 8) (c0_20 : ¬ z < 0) (c1_20 : z ≤ 5) (c2_45 : ¬ cw_cl (K 12 s) = 0) : sh_cM A md_Hall_make [.ref (A 0), .int (nI s), .int 4, .int z] K L (.inr 3) K L := by
  refine sh_cp (fun w Z k => sh_iload_n dc_Hall_make_0 rfl rfl k) ?_
  refine sh_cp (fun w Z k => sh_iconst (v := 0) dc_Hall_make_1 (by decide) k) ?_
  refine sh_cp (fun w Z k => sh_bipush (v := 7) dc_Hall_make_2 (by decide) k) ?_
  refine sh_ccall (fun w hw => sh_stat (As := [.int (nI s), .int 0, .int 7]) dc_Hall_make_4 lm_Hall_checkNumber ln_Hall_39 wd_191 wd_49 rfl rfl (Nat.le_of_ble_eq_true rfl)) (ct_Hall_checkNumber_2 (x := nI s) (lo := 0) (hi := 7) (nI_pos (by omega)) (sp_le7 hs)) ⟨(Nat.le_of_ble_eq_true rfl), (Nat.le_of_ble_eq_true rfl), (Nat.le_of_ble_eq_true rfl), (Nat.le_of_ble_eq_true rfl)⟩ ?_
  show sh_cW _ _ (_, _, []) K L _ _ _ _ _
  refine sh_cp (fun w Z k => sh_iload_n dc_Hall_make_7 rfl rfl k) ?_
  refine sh_cp (fun w Z k => sh_iconst (v := 0) dc_Hall_make_8 (by decide) k) ?_
  refine sh_cp (fun w Z k => sh_bipush (v := 6) dc_Hall_make_9 (by decide) k) ?_
  refine sh_ccall (fun w hw => sh_stat (As := [.int 4, .int 0, .int 6]) dc_Hall_make_11 lm_Hall_checkNumber ln_Hall_39 wd_191 wd_49 rfl rfl (Nat.le_of_ble_eq_true rfl)) (ct_Hall_checkNumber_2 (x := 4) (lo := 0) (hi := 6) (by decide) (by decide)) ⟨(Nat.le_of_ble_eq_true rfl), (Nat.le_of_ble_eq_true rfl), (Nat.le_of_ble_eq_true rfl), (Nat.le_of_ble_eq_true rfl)⟩ ?_
  show sh_cW _ _ (_, _, []) K L _ _ _ _ _
  refine sh_cp (fun w Z k => sh_iload_n dc_Hall_make_14 rfl rfl k) ?_
  refine sh_cp (fun w Z k => sh_iconst (v := 0) dc_Hall_make_15 (by decide) k) ?_
  refine sh_cp (fun w Z k => sh_iload_n dc_Hall_make_16 rfl rfl k) ?_
  refine sh_ccall (fun w hw => sh_stat (As := [.int 4]) dc_Hall_make_17 lm_Hall_greatestFor ln_Hall_43 wd_264 wd_49 rfl rfl (Nat.le_of_ble_eq_true rfl)) (ct_Hall_greatestFor_3 (x := 4) (by decide)) ⟨(Nat.le_of_ble_eq_true rfl), (Nat.le_of_ble_eq_true rfl), (Nat.le_of_ble_eq_true rfl), (Nat.le_of_ble_eq_true rfl)⟩ ?_
  show sh_cW _ _ (_, _, [.int 5, .int 0, .int z]) K L _ _ _ _ _
  refine sh_ccall (fun w hw => sh_stat (As := [.int z, .int 0, .int 5]) dc_Hall_make_20 lm_Hall_checkNumber ln_Hall_39 wd_191 wd_49 rfl rfl (Nat.le_of_ble_eq_true rfl)) (ct_Hall_checkNumber_2 (x := z) (lo := 0) (hi := 5) c0_20 c1_20) ⟨(Nat.le_of_ble_eq_true rfl), (Nat.le_of_ble_eq_true rfl), (Nat.le_of_ble_eq_true rfl), (Nat.le_of_ble_eq_true rfl)⟩ ?_
  show sh_cW _ _ (_, _, []) K L _ _ _ _ _
  refine sh_cp (fun w Z k => sh_iload_n dc_Hall_make_23 rfl rfl k) ?_
  refine sh_cp (fun w Z k => sh_bipush (v := 6) dc_Hall_make_24 (by decide) k) ?_
  refine sh_cp (fun w Z k => sh_icmp_ne (tgt := 37) dc_Hall_make_26 (by decide) (fun _ => k) (fun z => absurd z (by decide))) ?_
  refine sh_cp (fun w Z k => sh_anull dc_Hall_make_37 k) ?_
  refine sh_cp (fun w Z k => sh_astoreN dc_Hall_make_38 (by decide) k) ?_
  refine sh_cp (fun w Z k => sh_aload_n dc_Hall_make_40 rfl rfl k) ?_
  refine sh_cget 0 1 dc_Hall_make_41 cw_o0 rfl (by decide) fl_Hall_20 rfl rfl rfl rfl ?_
  refine sh_cp (fun w Z k => sh_iload_n dc_Hall_make_44 rfl rfl k) ?_
  refine sh_caald 2 (k := s) dc_Hall_make_45 cw_o2 rfl rfl (by omega) (by decide) ?_
  refine sh_ctv (if_neg c2_45) ?_
  refine sh_cp (fun w Z k => sh_ifnull dc_Hall_make_46 k) ?_
  exact sh_ct (fun w => sh_thr (lx := 2) (tx := "the sync is there") dc_Hall_make_49 dc_Hall_make_52 (Or.inl ⟨dc_Hall_make_53, rfl⟩) dc_Hall_make_55 dc_Hall_make_58 lx_Hall_51_55 (by decide +kernel) rfl (by decide) (by decide) (by decide) (by decide))
theorem ct_Hall_make_k4_3 {A : Nat → Nat} {K : sh_II} {L : sh_DD} {s : Nat} {z : Int32} (hs : s < 8) (c0_20 : ¬ z < 0) (c1_20 : ¬ z ≤ 5) : sh_cM A md_Hall_make [.ref (A 0), .int (nI s), .int 4, .int z] K L (.inr 1) K L := by
  refine sh_cp (fun w Z k => sh_iload_n dc_Hall_make_0 rfl rfl k) ?_
  refine sh_cp (fun w Z k => sh_iconst (v := 0) dc_Hall_make_1 (by decide) k) ?_
  refine sh_cp (fun w Z k => sh_bipush (v := 7) dc_Hall_make_2 (by decide) k) ?_
  refine sh_ccall (fun w hw => sh_stat (As := [.int (nI s), .int 0, .int 7]) dc_Hall_make_4 lm_Hall_checkNumber ln_Hall_39 wd_191 wd_49 rfl rfl (Nat.le_of_ble_eq_true rfl)) (ct_Hall_checkNumber_2 (x := nI s) (lo := 0) (hi := 7) (nI_pos (by omega)) (sp_le7 hs)) ⟨(Nat.le_of_ble_eq_true rfl), (Nat.le_of_ble_eq_true rfl), (Nat.le_of_ble_eq_true rfl), (Nat.le_of_ble_eq_true rfl)⟩ ?_
  show sh_cW _ _ (_, _, []) K L _ _ _ _ _
  refine sh_cp (fun w Z k => sh_iload_n dc_Hall_make_7 rfl rfl k) ?_
  refine sh_cp (fun w Z k => sh_iconst (v := 0) dc_Hall_make_8 (by decide) k) ?_
  refine sh_cp (fun w Z k => sh_bipush (v := 6) dc_Hall_make_9 (by decide) k) ?_
  refine sh_ccall (fun w hw => sh_stat (As := [.int 4, .int 0, .int 6]) dc_Hall_make_11 lm_Hall_checkNumber ln_Hall_39 wd_191 wd_49 rfl rfl (Nat.le_of_ble_eq_true rfl)) (ct_Hall_checkNumber_2 (x := 4) (lo := 0) (hi := 6) (by decide) (by decide)) ⟨(Nat.le_of_ble_eq_true rfl), (Nat.le_of_ble_eq_true rfl), (Nat.le_of_ble_eq_true rfl), (Nat.le_of_ble_eq_true rfl)⟩ ?_
  show sh_cW _ _ (_, _, []) K L _ _ _ _ _
  refine sh_cp (fun w Z k => sh_iload_n dc_Hall_make_14 rfl rfl k) ?_
  refine sh_cp (fun w Z k => sh_iconst (v := 0) dc_Hall_make_15 (by decide) k) ?_
  refine sh_cp (fun w Z k => sh_iload_n dc_Hall_make_16 rfl rfl k) ?_
  refine sh_ccall (fun w hw => sh_stat (As := [.int 4]) dc_Hall_make_17 lm_Hall_greatestFor ln_Hall_43 wd_264 wd_49 rfl rfl (Nat.le_of_ble_eq_true rfl)) (ct_Hall_greatestFor_3 (x := 4) (by decide)) ⟨(Nat.le_of_ble_eq_true rfl), (Nat.le_of_ble_eq_true rfl), (Nat.le_of_ble_eq_true rfl), (Nat.le_of_ble_eq_true rfl)⟩ ?_
  show sh_cW _ _ (_, _, [.int 5, .int 0, .int z]) K L _ _ _ _ _
  exact sh_ccallT (fun w hw => sh_stat (As := [.int z, .int 0, .int 5]) dc_Hall_make_20 lm_Hall_checkNumber ln_Hall_39 wd_191 wd_49 rfl rfl (Nat.le_of_ble_eq_true rfl)) (ct_Hall_checkNumber_3 (x := z) (lo := 0) (hi := 5) c0_20 c1_20) ⟨(Nat.le_of_ble_eq_true rfl), (Nat.le_of_ble_eq_true rfl), (Nat.le_of_ble_eq_true rfl), (Nat.le_of_ble_eq_true rfl)⟩ rfl
theorem ct_Hall_make_k5_1 {A : Nat → Nat} {K : sh_II} {L : sh_DD} {s : Nat} {z : Int32} (hs : s < 8) (c0_20 : z < 0) : sh_cM A md_Hall_make [.ref (A 0), .int (nI s), .int 5, .int z] K L (.inr 1) K L := by
  refine sh_cp (fun w Z k => sh_iload_n dc_Hall_make_0 rfl rfl k) ?_
  refine sh_cp (fun w Z k => sh_iconst (v := 0) dc_Hall_make_1 (by decide) k) ?_
  refine sh_cp (fun w Z k => sh_bipush (v := 7) dc_Hall_make_2 (by decide) k) ?_
  refine sh_ccall (fun w hw => sh_stat (As := [.int (nI s), .int 0, .int 7]) dc_Hall_make_4 lm_Hall_checkNumber ln_Hall_39 wd_191 wd_49 rfl rfl (Nat.le_of_ble_eq_true rfl)) (ct_Hall_checkNumber_2 (x := nI s) (lo := 0) (hi := 7) (nI_pos (by omega)) (sp_le7 hs)) ⟨(Nat.le_of_ble_eq_true rfl), (Nat.le_of_ble_eq_true rfl), (Nat.le_of_ble_eq_true rfl), (Nat.le_of_ble_eq_true rfl)⟩ ?_
  show sh_cW _ _ (_, _, []) K L _ _ _ _ _
  refine sh_cp (fun w Z k => sh_iload_n dc_Hall_make_7 rfl rfl k) ?_
  refine sh_cp (fun w Z k => sh_iconst (v := 0) dc_Hall_make_8 (by decide) k) ?_
  refine sh_cp (fun w Z k => sh_bipush (v := 6) dc_Hall_make_9 (by decide) k) ?_
  refine sh_ccall (fun w hw => sh_stat (As := [.int 5, .int 0, .int 6]) dc_Hall_make_11 lm_Hall_checkNumber ln_Hall_39 wd_191 wd_49 rfl rfl (Nat.le_of_ble_eq_true rfl)) (ct_Hall_checkNumber_2 (x := 5) (lo := 0) (hi := 6) (by decide) (by decide)) ⟨(Nat.le_of_ble_eq_true rfl), (Nat.le_of_ble_eq_true rfl), (Nat.le_of_ble_eq_true rfl), (Nat.le_of_ble_eq_true rfl)⟩ ?_
  show sh_cW _ _ (_, _, []) K L _ _ _ _ _
  refine sh_cp (fun w Z k => sh_iload_n dc_Hall_make_14 rfl rfl k) ?_
  refine sh_cp (fun w Z k => sh_iconst (v := 0) dc_Hall_make_15 (by decide) k) ?_
  refine sh_cp (fun w Z k => sh_iload_n dc_Hall_make_16 rfl rfl k) ?_
  refine sh_ccall (fun w hw => sh_stat (As := [.int 5]) dc_Hall_make_17 lm_Hall_greatestFor ln_Hall_43 wd_264 wd_49 rfl rfl (Nat.le_of_ble_eq_true rfl)) (ct_Hall_greatestFor_4 (x := 5) (by decide)) ⟨(Nat.le_of_ble_eq_true rfl), (Nat.le_of_ble_eq_true rfl), (Nat.le_of_ble_eq_true rfl), (Nat.le_of_ble_eq_true rfl)⟩ ?_
  show sh_cW _ _ (_, _, [.int 0, .int 0, .int z]) K L _ _ _ _ _
  exact sh_ccallT (fun w hw => sh_stat (As := [.int z, .int 0, .int 0]) dc_Hall_make_20 lm_Hall_checkNumber ln_Hall_39 wd_191 wd_49 rfl rfl (Nat.le_of_ble_eq_true rfl)) (ct_Hall_checkNumber_1 (x := z) (lo := 0) (hi := 0) c0_20) ⟨(Nat.le_of_ble_eq_true rfl), (Nat.le_of_ble_eq_true rfl), (Nat.le_of_ble_eq_true rfl), (Nat.le_of_ble_eq_true rfl)⟩ rfl
theorem ct_Hall_make_k5_2 {A : Nat → Nat} {K : sh_II} {L : sh_DD} {s : Nat} {z : Int32} (hs : s < 8) (c0_20 : ¬ z < 0) (c1_20 : z ≤ 0) (c2_45 : ¬ cw_cl (K 12 s) = 0) : sh_cM A md_Hall_make [.ref (A 0), .int (nI s), .int 5, .int z] K L (.inr 3) K L := by
  refine sh_cp (fun w Z k => sh_iload_n dc_Hall_make_0 rfl rfl k) ?_
  refine sh_cp (fun w Z k => sh_iconst (v := 0) dc_Hall_make_1 (by decide) k) ?_
  refine sh_cp (fun w Z k => sh_bipush (v := 7) dc_Hall_make_2 (by decide) k) ?_
  refine sh_ccall (fun w hw => sh_stat (As := [.int (nI s), .int 0, .int 7]) dc_Hall_make_4 lm_Hall_checkNumber ln_Hall_39 wd_191 wd_49 rfl rfl (Nat.le_of_ble_eq_true rfl)) (ct_Hall_checkNumber_2 (x := nI s) (lo := 0) (hi := 7) (nI_pos (by omega)) (sp_le7 hs)) ⟨(Nat.le_of_ble_eq_true rfl), (Nat.le_of_ble_eq_true rfl), (Nat.le_of_ble_eq_true rfl), (Nat.le_of_ble_eq_true rfl)⟩ ?_
  show sh_cW _ _ (_, _, []) K L _ _ _ _ _
  refine sh_cp (fun w Z k => sh_iload_n dc_Hall_make_7 rfl rfl k) ?_
  refine sh_cp (fun w Z k => sh_iconst (v := 0) dc_Hall_make_8 (by decide) k) ?_
  refine sh_cp (fun w Z k => sh_bipush (v := 6) dc_Hall_make_9 (by decide) k) ?_
  refine sh_ccall (fun w hw => sh_stat (As := [.int 5, .int 0, .int 6]) dc_Hall_make_11 lm_Hall_checkNumber ln_Hall_39 wd_191 wd_49 rfl rfl (Nat.le_of_ble_eq_true rfl)) (ct_Hall_checkNumber_2 (x := 5) (lo := 0) (hi := 6) (by decide) (by decide)) ⟨(Nat.le_of_ble_eq_true rfl), (Nat.le_of_ble_eq_true rfl), (Nat.le_of_ble_eq_true rfl), (Nat.le_of_ble_eq_true rfl)⟩ ?_
  show sh_cW _ _ (_, _, []) K L _ _ _ _ _
  refine sh_cp (fun w Z k => sh_iload_n dc_Hall_make_14 rfl rfl k) ?_
  refine sh_cp (fun w Z k => sh_iconst (v := 0) dc_Hall_make_15 (by decide) k) ?_
  refine sh_cp (fun w Z k => sh_iload_n dc_Hall_make_16 rfl rfl k) ?_
  refine sh_ccall (fun w hw => sh_stat (As := [.int 5]) dc_Hall_make_17 lm_Hall_greatestFor ln_Hall_43 wd_264 wd_49 rfl rfl (Nat.le_of_ble_eq_true rfl)) (ct_Hall_greatestFor_4 (x := 5) (by decide)) ⟨(Nat.le_of_ble_eq_true rfl), (Nat.le_of_ble_eq_true rfl), (Nat.le_of_ble_eq_true rfl), (Nat.le_of_ble_eq_true rfl)⟩ ?_
  show sh_cW _ _ (_, _, [.int 0, .int 0, .int z]) K L _ _ _ _ _
  refine sh_ccall (fun w hw => sh_stat (As := [.int z, .int 0, .int 0]) dc_Hall_make_20 lm_Hall_checkNumber ln_Hall_39 wd_191 wd_49 rfl rfl (Nat.le_of_ble_eq_true rfl)) (ct_Hall_checkNumber_2 (x := z) (lo := 0) (hi := 0) c0_20 c1_20) ⟨(Nat.le_of_ble_eq_true rfl), (Nat.le_of_ble_eq_true rfl), (Nat.le_of_ble_eq_true rfl), (Nat.le_of_ble_eq_true rfl)⟩ ?_
  show sh_cW _ _ (_, _, []) K L _ _ _ _ _
  refine sh_cp (fun w Z k => sh_iload_n dc_Hall_make_23 rfl rfl k) ?_
  refine sh_cp (fun w Z k => sh_bipush (v := 6) dc_Hall_make_24 (by decide) k) ?_
  refine sh_cp (fun w Z k => sh_icmp_ne (tgt := 37) dc_Hall_make_26 (by decide) (fun _ => k) (fun z => absurd z (by decide))) ?_
  refine sh_cp (fun w Z k => sh_anull dc_Hall_make_37 k) ?_
  refine sh_cp (fun w Z k => sh_astoreN dc_Hall_make_38 (by decide) k) ?_
  refine sh_cp (fun w Z k => sh_aload_n dc_Hall_make_40 rfl rfl k) ?_
  refine sh_cget 0 1 dc_Hall_make_41 cw_o0 rfl (by decide) fl_Hall_20 rfl rfl rfl rfl ?_
  refine sh_cp (fun w Z k => sh_iload_n dc_Hall_make_44 rfl rfl k) ?_
  refine sh_caald 2 (k := s) dc_Hall_make_45 cw_o2 rfl rfl (by omega) (by decide) ?_
  refine sh_ctv (if_neg c2_45) ?_
  refine sh_cp (fun w Z k => sh_ifnull dc_Hall_make_46 k) ?_
  exact sh_ct (fun w => sh_thr (lx := 2) (tx := "the sync is there") dc_Hall_make_49 dc_Hall_make_52 (Or.inl ⟨dc_Hall_make_53, rfl⟩) dc_Hall_make_55 dc_Hall_make_58 lx_Hall_51_55 (by decide +kernel) rfl (by decide) (by decide) (by decide) (by decide))
theorem ct_Hall_make_k5_3 {A : Nat → Nat} {K : sh_II} {L : sh_DD} {s : Nat} {z : Int32} (hs : s < 8) (c0_20 : ¬ z < 0) (c1_20 : ¬ z ≤ 0) : sh_cM A md_Hall_make [.ref (A 0), .int (nI s), .int 5, .int z] K L (.inr 1) K L := by
  refine sh_cp (fun w Z k => sh_iload_n dc_Hall_make_0 rfl rfl k) ?_
  refine sh_cp (fun w Z k => sh_iconst (v := 0) dc_Hall_make_1 (by decide) k) ?_
  refine sh_cp (fun w Z k => sh_bipush (v := 7) dc_Hall_make_2 (by decide) k) ?_
  refine sh_ccall (fun w hw => sh_stat (As := [.int (nI s), .int 0, .int 7]) dc_Hall_make_4 lm_Hall_checkNumber ln_Hall_39 wd_191 wd_49 rfl rfl (Nat.le_of_ble_eq_true rfl)) (ct_Hall_checkNumber_2 (x := nI s) (lo := 0) (hi := 7) (nI_pos (by omega)) (sp_le7 hs)) ⟨(Nat.le_of_ble_eq_true rfl), (Nat.le_of_ble_eq_true rfl), (Nat.le_of_ble_eq_true rfl), (Nat.le_of_ble_eq_true rfl)⟩ ?_
  show sh_cW _ _ (_, _, []) K L _ _ _ _ _
  refine sh_cp (fun w Z k => sh_iload_n dc_Hall_make_7 rfl rfl k) ?_
  refine sh_cp (fun w Z k => sh_iconst (v := 0) dc_Hall_make_8 (by decide) k) ?_
  refine sh_cp (fun w Z k => sh_bipush (v := 6) dc_Hall_make_9 (by decide) k) ?_
  refine sh_ccall (fun w hw => sh_stat (As := [.int 5, .int 0, .int 6]) dc_Hall_make_11 lm_Hall_checkNumber ln_Hall_39 wd_191 wd_49 rfl rfl (Nat.le_of_ble_eq_true rfl)) (ct_Hall_checkNumber_2 (x := 5) (lo := 0) (hi := 6) (by decide) (by decide)) ⟨(Nat.le_of_ble_eq_true rfl), (Nat.le_of_ble_eq_true rfl), (Nat.le_of_ble_eq_true rfl), (Nat.le_of_ble_eq_true rfl)⟩ ?_
  show sh_cW _ _ (_, _, []) K L _ _ _ _ _
  refine sh_cp (fun w Z k => sh_iload_n dc_Hall_make_14 rfl rfl k) ?_
  refine sh_cp (fun w Z k => sh_iconst (v := 0) dc_Hall_make_15 (by decide) k) ?_
  refine sh_cp (fun w Z k => sh_iload_n dc_Hall_make_16 rfl rfl k) ?_
  refine sh_ccall (fun w hw => sh_stat (As := [.int 5]) dc_Hall_make_17 lm_Hall_greatestFor ln_Hall_43 wd_264 wd_49 rfl rfl (Nat.le_of_ble_eq_true rfl)) (ct_Hall_greatestFor_4 (x := 5) (by decide)) ⟨(Nat.le_of_ble_eq_true rfl), (Nat.le_of_ble_eq_true rfl), (Nat.le_of_ble_eq_true rfl), (Nat.le_of_ble_eq_true rfl)⟩ ?_
  show sh_cW _ _ (_, _, [.int 0, .int 0, .int z]) K L _ _ _ _ _
  exact sh_ccallT (fun w hw => sh_stat (As := [.int z, .int 0, .int 0]) dc_Hall_make_20 lm_Hall_checkNumber ln_Hall_39 wd_191 wd_49 rfl rfl (Nat.le_of_ble_eq_true rfl)) (ct_Hall_checkNumber_3 (x := z) (lo := 0) (hi := 0) c0_20 c1_20) ⟨(Nat.le_of_ble_eq_true rfl), (Nat.le_of_ble_eq_true rfl), (Nat.le_of_ble_eq_true rfl), (Nat.le_of_ble_eq_true rfl)⟩ rfl
theorem ct_Hall_make_k6_1 {A : Nat → Nat} {K : sh_II} {L : sh_DD} {s : Nat} {z : Int32} (hs : s < 8) (c0_20 : z < 0) : sh_cM A md_Hall_make [.ref (A 0), .int (nI s), .int 6, .int z] K L (.inr 1) K L := by
  refine sh_cp (fun w Z k => sh_iload_n dc_Hall_make_0 rfl rfl k) ?_
  refine sh_cp (fun w Z k => sh_iconst (v := 0) dc_Hall_make_1 (by decide) k) ?_
  refine sh_cp (fun w Z k => sh_bipush (v := 7) dc_Hall_make_2 (by decide) k) ?_
  refine sh_ccall (fun w hw => sh_stat (As := [.int (nI s), .int 0, .int 7]) dc_Hall_make_4 lm_Hall_checkNumber ln_Hall_39 wd_191 wd_49 rfl rfl (Nat.le_of_ble_eq_true rfl)) (ct_Hall_checkNumber_2 (x := nI s) (lo := 0) (hi := 7) (nI_pos (by omega)) (sp_le7 hs)) ⟨(Nat.le_of_ble_eq_true rfl), (Nat.le_of_ble_eq_true rfl), (Nat.le_of_ble_eq_true rfl), (Nat.le_of_ble_eq_true rfl)⟩ ?_
  show sh_cW _ _ (_, _, []) K L _ _ _ _ _
  refine sh_cp (fun w Z k => sh_iload_n dc_Hall_make_7 rfl rfl k) ?_
  refine sh_cp (fun w Z k => sh_iconst (v := 0) dc_Hall_make_8 (by decide) k) ?_
  refine sh_cp (fun w Z k => sh_bipush (v := 6) dc_Hall_make_9 (by decide) k) ?_
  refine sh_ccall (fun w hw => sh_stat (As := [.int 6, .int 0, .int 6]) dc_Hall_make_11 lm_Hall_checkNumber ln_Hall_39 wd_191 wd_49 rfl rfl (Nat.le_of_ble_eq_true rfl)) (ct_Hall_checkNumber_2 (x := 6) (lo := 0) (hi := 6) (by decide) (by decide)) ⟨(Nat.le_of_ble_eq_true rfl), (Nat.le_of_ble_eq_true rfl), (Nat.le_of_ble_eq_true rfl), (Nat.le_of_ble_eq_true rfl)⟩ ?_
  show sh_cW _ _ (_, _, []) K L _ _ _ _ _
  refine sh_cp (fun w Z k => sh_iload_n dc_Hall_make_14 rfl rfl k) ?_
  refine sh_cp (fun w Z k => sh_iconst (v := 0) dc_Hall_make_15 (by decide) k) ?_
  refine sh_cp (fun w Z k => sh_iload_n dc_Hall_make_16 rfl rfl k) ?_
  refine sh_ccall (fun w hw => sh_stat (As := [.int 6]) dc_Hall_make_17 lm_Hall_greatestFor ln_Hall_43 wd_264 wd_49 rfl rfl (Nat.le_of_ble_eq_true rfl)) (ct_Hall_greatestFor_5 (x := 6) (by decide)) ⟨(Nat.le_of_ble_eq_true rfl), (Nat.le_of_ble_eq_true rfl), (Nat.le_of_ble_eq_true rfl), (Nat.le_of_ble_eq_true rfl)⟩ ?_
  show sh_cW _ _ (_, _, [.int 7, .int 0, .int z]) K L _ _ _ _ _
  exact sh_ccallT (fun w hw => sh_stat (As := [.int z, .int 0, .int 7]) dc_Hall_make_20 lm_Hall_checkNumber ln_Hall_39 wd_191 wd_49 rfl rfl (Nat.le_of_ble_eq_true rfl)) (ct_Hall_checkNumber_1 (x := z) (lo := 0) (hi := 7) c0_20) ⟨(Nat.le_of_ble_eq_true rfl), (Nat.le_of_ble_eq_true rfl), (Nat.le_of_ble_eq_true rfl), (Nat.le_of_ble_eq_true rfl)⟩ rfl
theorem ct_Hall_make_k6_2 {A : Nat → Nat} {K : sh_II} {L : sh_DD} {s : Nat} {z : Int32} (hs : s < 8) (c0_20 : ¬ z < 0) (c1_20 : ¬ z ≤ 7) : sh_cM A md_Hall_make [.ref (A 0), .int (nI s), .int 6, .int z] K L (.inr 1) K L := by
  refine sh_cp (fun w Z k => sh_iload_n dc_Hall_make_0 rfl rfl k) ?_
  refine sh_cp (fun w Z k => sh_iconst (v := 0) dc_Hall_make_1 (by decide) k) ?_
  refine sh_cp (fun w Z k => sh_bipush (v := 7) dc_Hall_make_2 (by decide) k) ?_
  refine sh_ccall (fun w hw => sh_stat (As := [.int (nI s), .int 0, .int 7]) dc_Hall_make_4 lm_Hall_checkNumber ln_Hall_39 wd_191 wd_49 rfl rfl (Nat.le_of_ble_eq_true rfl)) (ct_Hall_checkNumber_2 (x := nI s) (lo := 0) (hi := 7) (nI_pos (by omega)) (sp_le7 hs)) ⟨(Nat.le_of_ble_eq_true rfl), (Nat.le_of_ble_eq_true rfl), (Nat.le_of_ble_eq_true rfl), (Nat.le_of_ble_eq_true rfl)⟩ ?_
  show sh_cW _ _ (_, _, []) K L _ _ _ _ _
  refine sh_cp (fun w Z k => sh_iload_n dc_Hall_make_7 rfl rfl k) ?_
  refine sh_cp (fun w Z k => sh_iconst (v := 0) dc_Hall_make_8 (by decide) k) ?_
  refine sh_cp (fun w Z k => sh_bipush (v := 6) dc_Hall_make_9 (by decide) k) ?_
  refine sh_ccall (fun w hw => sh_stat (As := [.int 6, .int 0, .int 6]) dc_Hall_make_11 lm_Hall_checkNumber ln_Hall_39 wd_191 wd_49 rfl rfl (Nat.le_of_ble_eq_true rfl)) (ct_Hall_checkNumber_2 (x := 6) (lo := 0) (hi := 6) (by decide) (by decide)) ⟨(Nat.le_of_ble_eq_true rfl), (Nat.le_of_ble_eq_true rfl), (Nat.le_of_ble_eq_true rfl), (Nat.le_of_ble_eq_true rfl)⟩ ?_
  show sh_cW _ _ (_, _, []) K L _ _ _ _ _
  refine sh_cp (fun w Z k => sh_iload_n dc_Hall_make_14 rfl rfl k) ?_
  refine sh_cp (fun w Z k => sh_iconst (v := 0) dc_Hall_make_15 (by decide) k) ?_
  refine sh_cp (fun w Z k => sh_iload_n dc_Hall_make_16 rfl rfl k) ?_
  refine sh_ccall (fun w hw => sh_stat (As := [.int 6]) dc_Hall_make_17 lm_Hall_greatestFor ln_Hall_43 wd_264 wd_49 rfl rfl (Nat.le_of_ble_eq_true rfl)) (ct_Hall_greatestFor_5 (x := 6) (by decide)) ⟨(Nat.le_of_ble_eq_true rfl), (Nat.le_of_ble_eq_true rfl), (Nat.le_of_ble_eq_true rfl), (Nat.le_of_ble_eq_true rfl)⟩ ?_
  show sh_cW _ _ (_, _, [.int 7, .int 0, .int z]) K L _ _ _ _ _
  exact sh_ccallT (fun w hw => sh_stat (As := [.int z, .int 0, .int 7]) dc_Hall_make_20 lm_Hall_checkNumber ln_Hall_39 wd_191 wd_49 rfl rfl (Nat.le_of_ble_eq_true rfl)) (ct_Hall_checkNumber_3 (x := z) (lo := 0) (hi := 7) c0_20 c1_20) ⟨(Nat.le_of_ble_eq_true rfl), (Nat.le_of_ble_eq_true rfl), (Nat.le_of_ble_eq_true rfl), (Nat.le_of_ble_eq_true rfl)⟩ rfl
theorem ct_Hall_make_e6_1 {A : Nat → Nat} {K : sh_II} {L : sh_DD} {s : Nat} {e : Nat} (hs : s < 8) (he : e < 8) (c0_31 : cw_cl (K 12 e) = 0) : sh_cM A md_Hall_make [.ref (A 0), .int (nI s), .int 6, .int (nI e)] K L (.inr 2) K L := by
  refine sh_cp (fun w Z k => sh_iload_n dc_Hall_make_0 rfl rfl k) ?_
  refine sh_cp (fun w Z k => sh_iconst (v := 0) dc_Hall_make_1 (by decide) k) ?_
  refine sh_cp (fun w Z k => sh_bipush (v := 7) dc_Hall_make_2 (by decide) k) ?_
  refine sh_ccall (fun w hw => sh_stat (As := [.int (nI s), .int 0, .int 7]) dc_Hall_make_4 lm_Hall_checkNumber ln_Hall_39 wd_191 wd_49 rfl rfl (Nat.le_of_ble_eq_true rfl)) (ct_Hall_checkNumber_2 (x := nI s) (lo := 0) (hi := 7) (nI_pos (by omega)) (sp_le7 hs)) ⟨(Nat.le_of_ble_eq_true rfl), (Nat.le_of_ble_eq_true rfl), (Nat.le_of_ble_eq_true rfl), (Nat.le_of_ble_eq_true rfl)⟩ ?_
  show sh_cW _ _ (_, _, []) K L _ _ _ _ _
  refine sh_cp (fun w Z k => sh_iload_n dc_Hall_make_7 rfl rfl k) ?_
  refine sh_cp (fun w Z k => sh_iconst (v := 0) dc_Hall_make_8 (by decide) k) ?_
  refine sh_cp (fun w Z k => sh_bipush (v := 6) dc_Hall_make_9 (by decide) k) ?_
  refine sh_ccall (fun w hw => sh_stat (As := [.int 6, .int 0, .int 6]) dc_Hall_make_11 lm_Hall_checkNumber ln_Hall_39 wd_191 wd_49 rfl rfl (Nat.le_of_ble_eq_true rfl)) (ct_Hall_checkNumber_2 (x := 6) (lo := 0) (hi := 6) (by decide) (by decide)) ⟨(Nat.le_of_ble_eq_true rfl), (Nat.le_of_ble_eq_true rfl), (Nat.le_of_ble_eq_true rfl), (Nat.le_of_ble_eq_true rfl)⟩ ?_
  show sh_cW _ _ (_, _, []) K L _ _ _ _ _
  refine sh_cp (fun w Z k => sh_iload_n dc_Hall_make_14 rfl rfl k) ?_
  refine sh_cp (fun w Z k => sh_iconst (v := 0) dc_Hall_make_15 (by decide) k) ?_
  refine sh_cp (fun w Z k => sh_iload_n dc_Hall_make_16 rfl rfl k) ?_
  refine sh_ccall (fun w hw => sh_stat (As := [.int 6]) dc_Hall_make_17 lm_Hall_greatestFor ln_Hall_43 wd_264 wd_49 rfl rfl (Nat.le_of_ble_eq_true rfl)) (ct_Hall_greatestFor_5 (x := 6) (by decide)) ⟨(Nat.le_of_ble_eq_true rfl), (Nat.le_of_ble_eq_true rfl), (Nat.le_of_ble_eq_true rfl), (Nat.le_of_ble_eq_true rfl)⟩ ?_
  show sh_cW _ _ (_, _, [.int 7, .int 0, .int (nI e)]) K L _ _ _ _ _
  refine sh_ccall (fun w hw => sh_stat (As := [.int (nI e), .int 0, .int 7]) dc_Hall_make_20 lm_Hall_checkNumber ln_Hall_39 wd_191 wd_49 rfl rfl (Nat.le_of_ble_eq_true rfl)) (ct_Hall_checkNumber_2 (x := nI e) (lo := 0) (hi := 7) (nI_pos (by omega)) (sp_le7 he)) ⟨(Nat.le_of_ble_eq_true rfl), (Nat.le_of_ble_eq_true rfl), (Nat.le_of_ble_eq_true rfl), (Nat.le_of_ble_eq_true rfl)⟩ ?_
  show sh_cW _ _ (_, _, []) K L _ _ _ _ _
  refine sh_cp (fun w Z k => sh_iload_n dc_Hall_make_23 rfl rfl k) ?_
  refine sh_cp (fun w Z k => sh_bipush (v := 6) dc_Hall_make_24 (by decide) k) ?_
  refine sh_cp (fun w Z k => sh_icmp_ne (tgt := 37) dc_Hall_make_26 (by decide) (fun z => absurd (by decide) z) (fun _ => k)) ?_
  refine sh_cp (fun w Z k => sh_aload_n dc_Hall_make_29 rfl rfl k) ?_
  refine sh_cp (fun w Z k => sh_iload_n dc_Hall_make_30 rfl rfl k) ?_
  exact sh_ccallT (fun w hw => sh_virt (As := [.int (nI e)]) dc_Hall_make_31 lm_Hall_lockAt ln_Hall_47 wd_268 wd_1 rfl rfl (Nat.le_of_ble_eq_true rfl) (hw _ _ cw_o0) rfl) (ct_Hall_lockAt_1 (s := e) (by omega) c0_31) ⟨(Nat.le_of_ble_eq_true rfl), (Nat.le_of_ble_eq_true rfl), (Nat.le_of_ble_eq_true rfl), (Nat.le_of_ble_eq_true rfl)⟩ rfl
theorem ct_Hall_make_e6_2 {A : Nat → Nat} {K : sh_II} {L : sh_DD} {s : Nat} {e : Nat} (hs : s < 8) (he : e < 8) (c0_31 : ¬ cw_cl (K 12 e) = 0) (hk_e : cw_cl (K 12 e) = 4) (c2_45 : ¬ cw_cl (K 12 s) = 0) : sh_cM A md_Hall_make [.ref (A 0), .int (nI s), .int 6, .int (nI e)] K L (.inr 3) K L := by
  refine sh_cp (fun w Z k => sh_iload_n dc_Hall_make_0 rfl rfl k) ?_
  refine sh_cp (fun w Z k => sh_iconst (v := 0) dc_Hall_make_1 (by decide) k) ?_
  refine sh_cp (fun w Z k => sh_bipush (v := 7) dc_Hall_make_2 (by decide) k) ?_
  refine sh_ccall (fun w hw => sh_stat (As := [.int (nI s), .int 0, .int 7]) dc_Hall_make_4 lm_Hall_checkNumber ln_Hall_39 wd_191 wd_49 rfl rfl (Nat.le_of_ble_eq_true rfl)) (ct_Hall_checkNumber_2 (x := nI s) (lo := 0) (hi := 7) (nI_pos (by omega)) (sp_le7 hs)) ⟨(Nat.le_of_ble_eq_true rfl), (Nat.le_of_ble_eq_true rfl), (Nat.le_of_ble_eq_true rfl), (Nat.le_of_ble_eq_true rfl)⟩ ?_
  show sh_cW _ _ (_, _, []) K L _ _ _ _ _
  refine sh_cp (fun w Z k => sh_iload_n dc_Hall_make_7 rfl rfl k) ?_
  refine sh_cp (fun w Z k => sh_iconst (v := 0) dc_Hall_make_8 (by decide) k) ?_
  refine sh_cp (fun w Z k => sh_bipush (v := 6) dc_Hall_make_9 (by decide) k) ?_
  refine sh_ccall (fun w hw => sh_stat (As := [.int 6, .int 0, .int 6]) dc_Hall_make_11 lm_Hall_checkNumber ln_Hall_39 wd_191 wd_49 rfl rfl (Nat.le_of_ble_eq_true rfl)) (ct_Hall_checkNumber_2 (x := 6) (lo := 0) (hi := 6) (by decide) (by decide)) ⟨(Nat.le_of_ble_eq_true rfl), (Nat.le_of_ble_eq_true rfl), (Nat.le_of_ble_eq_true rfl), (Nat.le_of_ble_eq_true rfl)⟩ ?_
  show sh_cW _ _ (_, _, []) K L _ _ _ _ _
  refine sh_cp (fun w Z k => sh_iload_n dc_Hall_make_14 rfl rfl k) ?_
  refine sh_cp (fun w Z k => sh_iconst (v := 0) dc_Hall_make_15 (by decide) k) ?_
  refine sh_cp (fun w Z k => sh_iload_n dc_Hall_make_16 rfl rfl k) ?_
  refine sh_ccall (fun w hw => sh_stat (As := [.int 6]) dc_Hall_make_17 lm_Hall_greatestFor ln_Hall_43 wd_264 wd_49 rfl rfl (Nat.le_of_ble_eq_true rfl)) (ct_Hall_greatestFor_5 (x := 6) (by decide)) ⟨(Nat.le_of_ble_eq_true rfl), (Nat.le_of_ble_eq_true rfl), (Nat.le_of_ble_eq_true rfl), (Nat.le_of_ble_eq_true rfl)⟩ ?_
  show sh_cW _ _ (_, _, [.int 7, .int 0, .int (nI e)]) K L _ _ _ _ _
  refine sh_ccall (fun w hw => sh_stat (As := [.int (nI e), .int 0, .int 7]) dc_Hall_make_20 lm_Hall_checkNumber ln_Hall_39 wd_191 wd_49 rfl rfl (Nat.le_of_ble_eq_true rfl)) (ct_Hall_checkNumber_2 (x := nI e) (lo := 0) (hi := 7) (nI_pos (by omega)) (sp_le7 he)) ⟨(Nat.le_of_ble_eq_true rfl), (Nat.le_of_ble_eq_true rfl), (Nat.le_of_ble_eq_true rfl), (Nat.le_of_ble_eq_true rfl)⟩ ?_
  show sh_cW _ _ (_, _, []) K L _ _ _ _ _
  refine sh_cp (fun w Z k => sh_iload_n dc_Hall_make_23 rfl rfl k) ?_
  refine sh_cp (fun w Z k => sh_bipush (v := 6) dc_Hall_make_24 (by decide) k) ?_
  refine sh_cp (fun w Z k => sh_icmp_ne (tgt := 37) dc_Hall_make_26 (by decide) (fun z => absurd (by decide) z) (fun _ => k)) ?_
  refine sh_cp (fun w Z k => sh_aload_n dc_Hall_make_29 rfl rfl k) ?_
  refine sh_cp (fun w Z k => sh_iload_n dc_Hall_make_30 rfl rfl k) ?_
  refine sh_ccall (fun w hw => sh_virt (As := [.int (nI e)]) dc_Hall_make_31 lm_Hall_lockAt ln_Hall_47 wd_268 wd_1 rfl rfl (Nat.le_of_ble_eq_true rfl) (hw _ _ cw_o0) rfl) (ct_Hall_lockAt_2 (s := e) (by omega) c0_31 hk_e) ⟨(Nat.le_of_ble_eq_true rfl), (Nat.le_of_ble_eq_true rfl), (Nat.le_of_ble_eq_true rfl), (Nat.le_of_ble_eq_true rfl)⟩ ?_
  show sh_cW _ _ (_, _, [.ref (A (20 + e))]) K L _ _ _ _ _
  refine sh_cp (fun w Z k => sh_goto_ (tgt := 38) dc_Hall_make_34 (by decide) k) ?_
  refine sh_cp (fun w Z k => sh_astore dc_Hall_make_38 (by decide) k) ?_
  refine sh_cp (fun w Z k => sh_aload_n dc_Hall_make_40 rfl rfl k) ?_
  refine sh_cget 0 1 dc_Hall_make_41 cw_o0 rfl (by decide) fl_Hall_20 rfl rfl rfl rfl ?_
  refine sh_cp (fun w Z k => sh_iload_n dc_Hall_make_44 rfl rfl k) ?_
  refine sh_caald 2 (k := s) dc_Hall_make_45 cw_o2 rfl rfl (by omega) (by decide) ?_
  refine sh_ctv (if_neg c2_45) ?_
  refine sh_cp (fun w Z k => sh_ifnull dc_Hall_make_46 k) ?_
  exact sh_ct (fun w => sh_thr (lx := 2) (tx := "the sync is there") dc_Hall_make_49 dc_Hall_make_52 (Or.inl ⟨dc_Hall_make_53, rfl⟩) dc_Hall_make_55 dc_Hall_make_58 lx_Hall_51_55 (by decide +kernel) rfl (by decide) (by decide) (by decide) (by decide))
theorem ct_Hall_make_e6_3 {A : Nat → Nat} {K : sh_II} {L : sh_DD} {s : Nat} {e : Nat} (hs : s < 8) (he : e < 8) (c0_31 : ¬ cw_cl (K 12 e) = 0) (hk_e : cw_cl (K 12 e) = 5) : sh_cM A md_Hall_make [.ref (A 0), .int (nI s), .int 6, .int (nI e)] K L (.inr 2) K L := by
  refine sh_cp (fun w Z k => sh_iload_n dc_Hall_make_0 rfl rfl k) ?_
  refine sh_cp (fun w Z k => sh_iconst (v := 0) dc_Hall_make_1 (by decide) k) ?_
  refine sh_cp (fun w Z k => sh_bipush (v := 7) dc_Hall_make_2 (by decide) k) ?_
  refine sh_ccall (fun w hw => sh_stat (As := [.int (nI s), .int 0, .int 7]) dc_Hall_make_4 lm_Hall_checkNumber ln_Hall_39 wd_191 wd_49 rfl rfl (Nat.le_of_ble_eq_true rfl)) (ct_Hall_checkNumber_2 (x := nI s) (lo := 0) (hi := 7) (nI_pos (by omega)) (sp_le7 hs)) ⟨(Nat.le_of_ble_eq_true rfl), (Nat.le_of_ble_eq_true rfl), (Nat.le_of_ble_eq_true rfl), (Nat.le_of_ble_eq_true rfl)⟩ ?_
  show sh_cW _ _ (_, _, []) K L _ _ _ _ _
  refine sh_cp (fun w Z k => sh_iload_n dc_Hall_make_7 rfl rfl k) ?_
  refine sh_cp (fun w Z k => sh_iconst (v := 0) dc_Hall_make_8 (by decide) k) ?_
  refine sh_cp (fun w Z k => sh_bipush (v := 6) dc_Hall_make_9 (by decide) k) ?_
  refine sh_ccall (fun w hw => sh_stat (As := [.int 6, .int 0, .int 6]) dc_Hall_make_11 lm_Hall_checkNumber ln_Hall_39 wd_191 wd_49 rfl rfl (Nat.le_of_ble_eq_true rfl)) (ct_Hall_checkNumber_2 (x := 6) (lo := 0) (hi := 6) (by decide) (by decide)) ⟨(Nat.le_of_ble_eq_true rfl), (Nat.le_of_ble_eq_true rfl), (Nat.le_of_ble_eq_true rfl), (Nat.le_of_ble_eq_true rfl)⟩ ?_
  show sh_cW _ _ (_, _, []) K L _ _ _ _ _
  refine sh_cp (fun w Z k => sh_iload_n dc_Hall_make_14 rfl rfl k) ?_
  refine sh_cp (fun w Z k => sh_iconst (v := 0) dc_Hall_make_15 (by decide) k) ?_
  refine sh_cp (fun w Z k => sh_iload_n dc_Hall_make_16 rfl rfl k) ?_
  refine sh_ccall (fun w hw => sh_stat (As := [.int 6]) dc_Hall_make_17 lm_Hall_greatestFor ln_Hall_43 wd_264 wd_49 rfl rfl (Nat.le_of_ble_eq_true rfl)) (ct_Hall_greatestFor_5 (x := 6) (by decide)) ⟨(Nat.le_of_ble_eq_true rfl), (Nat.le_of_ble_eq_true rfl), (Nat.le_of_ble_eq_true rfl), (Nat.le_of_ble_eq_true rfl)⟩ ?_
  show sh_cW _ _ (_, _, [.int 7, .int 0, .int (nI e)]) K L _ _ _ _ _
  refine sh_ccall (fun w hw => sh_stat (As := [.int (nI e), .int 0, .int 7]) dc_Hall_make_20 lm_Hall_checkNumber ln_Hall_39 wd_191 wd_49 rfl rfl (Nat.le_of_ble_eq_true rfl)) (ct_Hall_checkNumber_2 (x := nI e) (lo := 0) (hi := 7) (nI_pos (by omega)) (sp_le7 he)) ⟨(Nat.le_of_ble_eq_true rfl), (Nat.le_of_ble_eq_true rfl), (Nat.le_of_ble_eq_true rfl), (Nat.le_of_ble_eq_true rfl)⟩ ?_
  show sh_cW _ _ (_, _, []) K L _ _ _ _ _
  refine sh_cp (fun w Z k => sh_iload_n dc_Hall_make_23 rfl rfl k) ?_
  refine sh_cp (fun w Z k => sh_bipush (v := 6) dc_Hall_make_24 (by decide) k) ?_
  refine sh_cp (fun w Z k => sh_icmp_ne (tgt := 37) dc_Hall_make_26 (by decide) (fun z => absurd (by decide) z) (fun _ => k)) ?_
  refine sh_cp (fun w Z k => sh_aload_n dc_Hall_make_29 rfl rfl k) ?_
  refine sh_cp (fun w Z k => sh_iload_n dc_Hall_make_30 rfl rfl k) ?_
  exact sh_ccallT (fun w hw => sh_virt (As := [.int (nI e)]) dc_Hall_make_31 lm_Hall_lockAt ln_Hall_47 wd_268 wd_1 rfl rfl (Nat.le_of_ble_eq_true rfl) (hw _ _ cw_o0) rfl) (ct_Hall_lockAt_3 (s := e) (by omega) (cw_nz hk_e (by decide)) hk_e) ⟨(Nat.le_of_ble_eq_true rfl), (Nat.le_of_ble_eq_true rfl), (Nat.le_of_ble_eq_true rfl), (Nat.le_of_ble_eq_true rfl)⟩ rfl
theorem ct_Hall_make_e6_4 {A : Nat → Nat} {K : sh_II} {L : sh_DD} {s : Nat} {e : Nat} (hs : s < 8) (he : e < 8) (c0_31 : ¬ cw_cl (K 12 e) = 0) (hk_e : cw_cl (K 12 e) = 6) : sh_cM A md_Hall_make [.ref (A 0), .int (nI s), .int 6, .int (nI e)] K L (.inr 2) K L := by
  refine sh_cp (fun w Z k => sh_iload_n dc_Hall_make_0 rfl rfl k) ?_
  refine sh_cp (fun w Z k => sh_iconst (v := 0) dc_Hall_make_1 (by decide) k) ?_
  refine sh_cp (fun w Z k => sh_bipush (v := 7) dc_Hall_make_2 (by decide) k) ?_
  refine sh_ccall (fun w hw => sh_stat (As := [.int (nI s), .int 0, .int 7]) dc_Hall_make_4 lm_Hall_checkNumber ln_Hall_39 wd_191 wd_49 rfl rfl (Nat.le_of_ble_eq_true rfl)) (ct_Hall_checkNumber_2 (x := nI s) (lo := 0) (hi := 7) (nI_pos (by omega)) (sp_le7 hs)) ⟨(Nat.le_of_ble_eq_true rfl), (Nat.le_of_ble_eq_true rfl), (Nat.le_of_ble_eq_true rfl), (Nat.le_of_ble_eq_true rfl)⟩ ?_
  show sh_cW _ _ (_, _, []) K L _ _ _ _ _
  refine sh_cp (fun w Z k => sh_iload_n dc_Hall_make_7 rfl rfl k) ?_
  refine sh_cp (fun w Z k => sh_iconst (v := 0) dc_Hall_make_8 (by decide) k) ?_
  refine sh_cp (fun w Z k => sh_bipush (v := 6) dc_Hall_make_9 (by decide) k) ?_
  refine sh_ccall (fun w hw => sh_stat (As := [.int 6, .int 0, .int 6]) dc_Hall_make_11 lm_Hall_checkNumber ln_Hall_39 wd_191 wd_49 rfl rfl (Nat.le_of_ble_eq_true rfl)) (ct_Hall_checkNumber_2 (x := 6) (lo := 0) (hi := 6) (by decide) (by decide)) ⟨(Nat.le_of_ble_eq_true rfl), (Nat.le_of_ble_eq_true rfl), (Nat.le_of_ble_eq_true rfl), (Nat.le_of_ble_eq_true rfl)⟩ ?_
  show sh_cW _ _ (_, _, []) K L _ _ _ _ _
  refine sh_cp (fun w Z k => sh_iload_n dc_Hall_make_14 rfl rfl k) ?_
  refine sh_cp (fun w Z k => sh_iconst (v := 0) dc_Hall_make_15 (by decide) k) ?_
  refine sh_cp (fun w Z k => sh_iload_n dc_Hall_make_16 rfl rfl k) ?_
  refine sh_ccall (fun w hw => sh_stat (As := [.int 6]) dc_Hall_make_17 lm_Hall_greatestFor ln_Hall_43 wd_264 wd_49 rfl rfl (Nat.le_of_ble_eq_true rfl)) (ct_Hall_greatestFor_5 (x := 6) (by decide)) ⟨(Nat.le_of_ble_eq_true rfl), (Nat.le_of_ble_eq_true rfl), (Nat.le_of_ble_eq_true rfl), (Nat.le_of_ble_eq_true rfl)⟩ ?_
  show sh_cW _ _ (_, _, [.int 7, .int 0, .int (nI e)]) K L _ _ _ _ _
  refine sh_ccall (fun w hw => sh_stat (As := [.int (nI e), .int 0, .int 7]) dc_Hall_make_20 lm_Hall_checkNumber ln_Hall_39 wd_191 wd_49 rfl rfl (Nat.le_of_ble_eq_true rfl)) (ct_Hall_checkNumber_2 (x := nI e) (lo := 0) (hi := 7) (nI_pos (by omega)) (sp_le7 he)) ⟨(Nat.le_of_ble_eq_true rfl), (Nat.le_of_ble_eq_true rfl), (Nat.le_of_ble_eq_true rfl), (Nat.le_of_ble_eq_true rfl)⟩ ?_
  show sh_cW _ _ (_, _, []) K L _ _ _ _ _
  refine sh_cp (fun w Z k => sh_iload_n dc_Hall_make_23 rfl rfl k) ?_
  refine sh_cp (fun w Z k => sh_bipush (v := 6) dc_Hall_make_24 (by decide) k) ?_
  refine sh_cp (fun w Z k => sh_icmp_ne (tgt := 37) dc_Hall_make_26 (by decide) (fun z => absurd (by decide) z) (fun _ => k)) ?_
  refine sh_cp (fun w Z k => sh_aload_n dc_Hall_make_29 rfl rfl k) ?_
  refine sh_cp (fun w Z k => sh_iload_n dc_Hall_make_30 rfl rfl k) ?_
  exact sh_ccallT (fun w hw => sh_virt (As := [.int (nI e)]) dc_Hall_make_31 lm_Hall_lockAt ln_Hall_47 wd_268 wd_1 rfl rfl (Nat.le_of_ble_eq_true rfl) (hw _ _ cw_o0) rfl) (ct_Hall_lockAt_4 (s := e) (by omega) (cw_nz hk_e (by decide)) hk_e) ⟨(Nat.le_of_ble_eq_true rfl), (Nat.le_of_ble_eq_true rfl), (Nat.le_of_ble_eq_true rfl), (Nat.le_of_ble_eq_true rfl)⟩ rfl
theorem ct_Hall_make_e6_5 {A : Nat → Nat} {K : sh_II} {L : sh_DD} {s : Nat} {e : Nat} (hs : s < 8) (he : e < 8) (c0_31 : ¬ cw_cl (K 12 e) = 0) (hk_e : cw_cl (K 12 e) = 7) : sh_cM A md_Hall_make [.ref (A 0), .int (nI s), .int 6, .int (nI e)] K L (.inr 2) K L := by
  refine sh_cp (fun w Z k => sh_iload_n dc_Hall_make_0 rfl rfl k) ?_
  refine sh_cp (fun w Z k => sh_iconst (v := 0) dc_Hall_make_1 (by decide) k) ?_
  refine sh_cp (fun w Z k => sh_bipush (v := 7) dc_Hall_make_2 (by decide) k) ?_
  refine sh_ccall (fun w hw => sh_stat (As := [.int (nI s), .int 0, .int 7]) dc_Hall_make_4 lm_Hall_checkNumber ln_Hall_39 wd_191 wd_49 rfl rfl (Nat.le_of_ble_eq_true rfl)) (ct_Hall_checkNumber_2 (x := nI s) (lo := 0) (hi := 7) (nI_pos (by omega)) (sp_le7 hs)) ⟨(Nat.le_of_ble_eq_true rfl), (Nat.le_of_ble_eq_true rfl), (Nat.le_of_ble_eq_true rfl), (Nat.le_of_ble_eq_true rfl)⟩ ?_
  show sh_cW _ _ (_, _, []) K L _ _ _ _ _
  refine sh_cp (fun w Z k => sh_iload_n dc_Hall_make_7 rfl rfl k) ?_
  refine sh_cp (fun w Z k => sh_iconst (v := 0) dc_Hall_make_8 (by decide) k) ?_
  refine sh_cp (fun w Z k => sh_bipush (v := 6) dc_Hall_make_9 (by decide) k) ?_
  refine sh_ccall (fun w hw => sh_stat (As := [.int 6, .int 0, .int 6]) dc_Hall_make_11 lm_Hall_checkNumber ln_Hall_39 wd_191 wd_49 rfl rfl (Nat.le_of_ble_eq_true rfl)) (ct_Hall_checkNumber_2 (x := 6) (lo := 0) (hi := 6) (by decide) (by decide)) ⟨(Nat.le_of_ble_eq_true rfl), (Nat.le_of_ble_eq_true rfl), (Nat.le_of_ble_eq_true rfl), (Nat.le_of_ble_eq_true rfl)⟩ ?_
  show sh_cW _ _ (_, _, []) K L _ _ _ _ _
  refine sh_cp (fun w Z k => sh_iload_n dc_Hall_make_14 rfl rfl k) ?_
  refine sh_cp (fun w Z k => sh_iconst (v := 0) dc_Hall_make_15 (by decide) k) ?_
  refine sh_cp (fun w Z k => sh_iload_n dc_Hall_make_16 rfl rfl k) ?_
  refine sh_ccall (fun w hw => sh_stat (As := [.int 6]) dc_Hall_make_17 lm_Hall_greatestFor ln_Hall_43 wd_264 wd_49 rfl rfl (Nat.le_of_ble_eq_true rfl)) (ct_Hall_greatestFor_5 (x := 6) (by decide)) ⟨(Nat.le_of_ble_eq_true rfl), (Nat.le_of_ble_eq_true rfl), (Nat.le_of_ble_eq_true rfl), (Nat.le_of_ble_eq_true rfl)⟩ ?_
  show sh_cW _ _ (_, _, [.int 7, .int 0, .int (nI e)]) K L _ _ _ _ _
  refine sh_ccall (fun w hw => sh_stat (As := [.int (nI e), .int 0, .int 7]) dc_Hall_make_20 lm_Hall_checkNumber ln_Hall_39 wd_191 wd_49 rfl rfl (Nat.le_of_ble_eq_true rfl)) (ct_Hall_checkNumber_2 (x := nI e) (lo := 0) (hi := 7) (nI_pos (by omega)) (sp_le7 he)) ⟨(Nat.le_of_ble_eq_true rfl), (Nat.le_of_ble_eq_true rfl), (Nat.le_of_ble_eq_true rfl), (Nat.le_of_ble_eq_true rfl)⟩ ?_
  show sh_cW _ _ (_, _, []) K L _ _ _ _ _
  refine sh_cp (fun w Z k => sh_iload_n dc_Hall_make_23 rfl rfl k) ?_
  refine sh_cp (fun w Z k => sh_bipush (v := 6) dc_Hall_make_24 (by decide) k) ?_
  refine sh_cp (fun w Z k => sh_icmp_ne (tgt := 37) dc_Hall_make_26 (by decide) (fun z => absurd (by decide) z) (fun _ => k)) ?_
  refine sh_cp (fun w Z k => sh_aload_n dc_Hall_make_29 rfl rfl k) ?_
  refine sh_cp (fun w Z k => sh_iload_n dc_Hall_make_30 rfl rfl k) ?_
  exact sh_ccallT (fun w hw => sh_virt (As := [.int (nI e)]) dc_Hall_make_31 lm_Hall_lockAt ln_Hall_47 wd_268 wd_1 rfl rfl (Nat.le_of_ble_eq_true rfl) (hw _ _ cw_o0) rfl) (ct_Hall_lockAt_5 (s := e) (by omega) (cw_nz hk_e (by decide)) hk_e) ⟨(Nat.le_of_ble_eq_true rfl), (Nat.le_of_ble_eq_true rfl), (Nat.le_of_ble_eq_true rfl), (Nat.le_of_ble_eq_true rfl)⟩ rfl
theorem ct_Hall_make_e6_6 {A : Nat → Nat} {K : sh_II} {L : sh_DD} {s : Nat} {e : Nat} (hs : s < 8) (he : e < 8) (c0_31 : ¬ cw_cl (K 12 e) = 0) (hk_e : cw_cl (K 12 e) = 8) : sh_cM A md_Hall_make [.ref (A 0), .int (nI s), .int 6, .int (nI e)] K L (.inr 2) K L := by
  refine sh_cp (fun w Z k => sh_iload_n dc_Hall_make_0 rfl rfl k) ?_
  refine sh_cp (fun w Z k => sh_iconst (v := 0) dc_Hall_make_1 (by decide) k) ?_
  refine sh_cp (fun w Z k => sh_bipush (v := 7) dc_Hall_make_2 (by decide) k) ?_
  refine sh_ccall (fun w hw => sh_stat (As := [.int (nI s), .int 0, .int 7]) dc_Hall_make_4 lm_Hall_checkNumber ln_Hall_39 wd_191 wd_49 rfl rfl (Nat.le_of_ble_eq_true rfl)) (ct_Hall_checkNumber_2 (x := nI s) (lo := 0) (hi := 7) (nI_pos (by omega)) (sp_le7 hs)) ⟨(Nat.le_of_ble_eq_true rfl), (Nat.le_of_ble_eq_true rfl), (Nat.le_of_ble_eq_true rfl), (Nat.le_of_ble_eq_true rfl)⟩ ?_
  show sh_cW _ _ (_, _, []) K L _ _ _ _ _
  refine sh_cp (fun w Z k => sh_iload_n dc_Hall_make_7 rfl rfl k) ?_
  refine sh_cp (fun w Z k => sh_iconst (v := 0) dc_Hall_make_8 (by decide) k) ?_
  refine sh_cp (fun w Z k => sh_bipush (v := 6) dc_Hall_make_9 (by decide) k) ?_
  refine sh_ccall (fun w hw => sh_stat (As := [.int 6, .int 0, .int 6]) dc_Hall_make_11 lm_Hall_checkNumber ln_Hall_39 wd_191 wd_49 rfl rfl (Nat.le_of_ble_eq_true rfl)) (ct_Hall_checkNumber_2 (x := 6) (lo := 0) (hi := 6) (by decide) (by decide)) ⟨(Nat.le_of_ble_eq_true rfl), (Nat.le_of_ble_eq_true rfl), (Nat.le_of_ble_eq_true rfl), (Nat.le_of_ble_eq_true rfl)⟩ ?_
  show sh_cW _ _ (_, _, []) K L _ _ _ _ _
  refine sh_cp (fun w Z k => sh_iload_n dc_Hall_make_14 rfl rfl k) ?_
  refine sh_cp (fun w Z k => sh_iconst (v := 0) dc_Hall_make_15 (by decide) k) ?_
  refine sh_cp (fun w Z k => sh_iload_n dc_Hall_make_16 rfl rfl k) ?_
  refine sh_ccall (fun w hw => sh_stat (As := [.int 6]) dc_Hall_make_17 lm_Hall_greatestFor ln_Hall_43 wd_264 wd_49 rfl rfl (Nat.le_of_ble_eq_true rfl)) (ct_Hall_greatestFor_5 (x := 6) (by decide)) ⟨(Nat.le_of_ble_eq_true rfl), (Nat.le_of_ble_eq_true rfl), (Nat.le_of_ble_eq_true rfl), (Nat.le_of_ble_eq_true rfl)⟩ ?_
  show sh_cW _ _ (_, _, [.int 7, .int 0, .int (nI e)]) K L _ _ _ _ _
  refine sh_ccall (fun w hw => sh_stat (As := [.int (nI e), .int 0, .int 7]) dc_Hall_make_20 lm_Hall_checkNumber ln_Hall_39 wd_191 wd_49 rfl rfl (Nat.le_of_ble_eq_true rfl)) (ct_Hall_checkNumber_2 (x := nI e) (lo := 0) (hi := 7) (nI_pos (by omega)) (sp_le7 he)) ⟨(Nat.le_of_ble_eq_true rfl), (Nat.le_of_ble_eq_true rfl), (Nat.le_of_ble_eq_true rfl), (Nat.le_of_ble_eq_true rfl)⟩ ?_
  show sh_cW _ _ (_, _, []) K L _ _ _ _ _
  refine sh_cp (fun w Z k => sh_iload_n dc_Hall_make_23 rfl rfl k) ?_
  refine sh_cp (fun w Z k => sh_bipush (v := 6) dc_Hall_make_24 (by decide) k) ?_
  refine sh_cp (fun w Z k => sh_icmp_ne (tgt := 37) dc_Hall_make_26 (by decide) (fun z => absurd (by decide) z) (fun _ => k)) ?_
  refine sh_cp (fun w Z k => sh_aload_n dc_Hall_make_29 rfl rfl k) ?_
  refine sh_cp (fun w Z k => sh_iload_n dc_Hall_make_30 rfl rfl k) ?_
  exact sh_ccallT (fun w hw => sh_virt (As := [.int (nI e)]) dc_Hall_make_31 lm_Hall_lockAt ln_Hall_47 wd_268 wd_1 rfl rfl (Nat.le_of_ble_eq_true rfl) (hw _ _ cw_o0) rfl) (ct_Hall_lockAt_6 (s := e) (by omega) (cw_nz hk_e (by decide)) hk_e) ⟨(Nat.le_of_ble_eq_true rfl), (Nat.le_of_ble_eq_true rfl), (Nat.le_of_ble_eq_true rfl), (Nat.le_of_ble_eq_true rfl)⟩ rfl
