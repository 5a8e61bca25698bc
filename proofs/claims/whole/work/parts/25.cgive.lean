theorem ct_Hall_signalFirst_1 {A : Nat → Nat} {K : sh_II} {L : sh_DD} {s : Nat} {q : Nat} {l : List Nat} (hs : s < 8) (hq : q < 8) (eq : K 16 s = nI q) (hr : cw_row K s l) (hk_s : cw_cl (K 12 s) = 8) (hk_q : cw_cl (K 12 q) = 4) (c0_5 : (K 19 s) ≤ 0) : sh_cM A md_Hall_signalFirst [.ref (A 0), .ref (A (20 + s))] K L (.inl none) K L := by
  refine sh_cp (fun w Z k => sh_aload_n dc_Hall_signalFirst_0 rfl rfl k) ?_
  refine sh_cget (20 + s) 1 dc_Hall_signalFirst_1 (cw_oc (by omega) hk_s) rfl (by decide) fl_Hall_171 rfl rfl rfl rfl ?_
  refine sh_cp (fun w Z k => sh_iconst (v := 0) dc_Hall_signalFirst_4 (by decide) k) ?_
  refine sh_ccall (fun w hw => sh_virt (As := [.int 0]) dc_Hall_signalFirst_5 lm_Waiters_at ln_Hall_210 wd_690 wd_22 rfl rfl (Nat.le_of_ble_eq_true rfl) (hw _ _ (cw_ot (by omega) (cw_nz hk_s (by decide)))) rfl) (ct_Waiters_at_0_1 (s := s) (by omega) (cw_nz hk_s (by decide)) c0_5) ⟨(Nat.le_of_ble_eq_true rfl), (Nat.le_of_ble_eq_true rfl), (Nat.le_of_ble_eq_true rfl), (Nat.le_of_ble_eq_true rfl)⟩ ?_
  show sh_cW _ _ (_, _, [.null]) K L _ _ _ _ _
  refine sh_cp (fun w Z k => sh_astore_nN dc_Hall_signalFirst_8 rfl (by decide) k) ?_
  refine sh_cp (fun w Z k => sh_aload_nq (x := none) dc_Hall_signalFirst_9 rfl rfl k) ?_
  show sh_cW _ _ (_, _, .null :: _) _ _ _ _ _ _ _
  refine sh_cp (fun w Z k => sh_ifnonnullN dc_Hall_signalFirst_10 k) ?_
  exact sh_ce (fun w => sh_return dc_Hall_signalFirst_13 rfl (by decide) (by decide))
theorem ct_Hall_signalFirst_2 {A : Nat → Nat} {K : sh_II} {L : sh_DD} {s : Nat} {q : Nat} {l : List Nat} (hs : s < 8) (hq : q < 8) (eq : K 16 s = nI q) (hr : cw_row K s l) (hk_s : cw_cl (K 12 s) = 8) (hk_q : cw_cl (K 12 q) = 4) (c0_5 : ¬ (K 19 s) ≤ 0) (c1_5 : (K 18 (6 * s + 0)) = -1) : sh_cM A md_Hall_signalFirst [.ref (A 0), .ref (A (20 + s))] K L (.inl none) K L := by
  refine sh_cp (fun w Z k => sh_aload_n dc_Hall_signalFirst_0 rfl rfl k) ?_
  refine sh_cget (20 + s) 1 dc_Hall_signalFirst_1 (cw_oc (by omega) hk_s) rfl (by decide) fl_Hall_171 rfl rfl rfl rfl ?_
  refine sh_cp (fun w Z k => sh_iconst (v := 0) dc_Hall_signalFirst_4 (by decide) k) ?_
  refine sh_ccall (fun w hw => sh_virt (As := [.int 0]) dc_Hall_signalFirst_5 lm_Waiters_at ln_Hall_210 wd_690 wd_22 rfl rfl (Nat.le_of_ble_eq_true rfl) (hw _ _ (cw_ot (by omega) (cw_nz hk_s (by decide)))) rfl) (ct_Waiters_at_0_2 (s := s) (by omega) (cw_nz hk_s (by decide)) c0_5 c1_5) ⟨(Nat.le_of_ble_eq_true rfl), (Nat.le_of_ble_eq_true rfl), (Nat.le_of_ble_eq_true rfl), (Nat.le_of_ble_eq_true rfl)⟩ ?_
  show sh_cW _ _ (_, _, [.null]) K L _ _ _ _ _
  refine sh_cp (fun w Z k => sh_astore_nN dc_Hall_signalFirst_8 rfl (by decide) k) ?_
  refine sh_cp (fun w Z k => sh_aload_nq (x := none) dc_Hall_signalFirst_9 rfl rfl k) ?_
  show sh_cW _ _ (_, _, .null :: _) _ _ _ _ _ _ _
  refine sh_cp (fun w Z k => sh_ifnonnullN dc_Hall_signalFirst_10 k) ?_
  exact sh_ce (fun w => sh_return dc_Hall_signalFirst_13 rfl (by decide) (by decide))
theorem ct_Hall_signalFirst_3 {A : Nat → Nat} {K : sh_II} {L : sh_DD} {s : Nat} {q : Nat} {l : List Nat} {u18_5 : Nat} {l39 : List Nat} (hs : s < 8) (hq : q < 8) (eq : K 16 s = nI q) (hr : cw_row K s l) (hk_s : cw_cl (K 12 s) = 8) (hk_q : cw_cl (K 12 q) = 4) (c0_5 : ¬ (K 19 s) ≤ 0) (hu18_5 : u18_5 < 6) (c2_5 : (K 18 (6 * s + 0)) = nI u18_5) (v3_23 : vf_n64 (FP.dsub (L 11 0) (L 8 u18_5))) (v4_24 : vf_n64 (FP.dadd (L 20 s) (FP.dsub (L 11 0) (L 8 u18_5)))) (v5_39 : cw_row (sp_deq (sh_u2 K 21 s ((K 21 s) + 1)) s u18_5 l) q l39) (v6_39 : l39.length < 6) (v7_39 : sp_qok (sp_deq (sh_u2 K 21 s ((K 21 s) + 1)) s u18_5 l) (sh_u2 L 20 s (FP.dadd (L 20 s) (FP.dsub (L 11 0) (L 8 u18_5)))) q u18_5 1 l39) : sh_cM A md_Hall_signalFirst [.ref (A 0), .ref (A (20 + s))] K L (.inl none) (sp_qfl (sp_deq (sh_u2 K 21 s ((K 21 s) + 1)) s u18_5 l) (sh_u2 L 20 s (FP.dadd (L 20 s) (FP.dsub (L 11 0) (L 8 u18_5)))) q u18_5 1 l39).1 (sp_qfl (sp_deq (sh_u2 K 21 s ((K 21 s) + 1)) s u18_5 l) (sh_u2 L 20 s (FP.dadd (L 20 s) (FP.dsub (L 11 0) (L 8 u18_5)))) q u18_5 1 l39).2 := by
  refine sh_cp (fun w Z k => sh_aload_n dc_Hall_signalFirst_0 rfl rfl k) ?_
  refine sh_cget (20 + s) 1 dc_Hall_signalFirst_1 (cw_oc (by omega) hk_s) rfl (by decide) fl_Hall_171 rfl rfl rfl rfl ?_
  refine sh_cp (fun w Z k => sh_iconst (v := 0) dc_Hall_signalFirst_4 (by decide) k) ?_
  refine sh_ccall (fun w hw => sh_virt (As := [.int 0]) dc_Hall_signalFirst_5 lm_Waiters_at ln_Hall_210 wd_690 wd_22 rfl rfl (Nat.le_of_ble_eq_true rfl) (hw _ _ (cw_ot (by omega) (cw_nz hk_s (by decide)))) rfl) (ct_Waiters_at_0_3 (s := s) (u18_17 := u18_5) (by omega) (cw_nz hk_s (by decide)) c0_5 (by omega) c2_5) ⟨(Nat.le_of_ble_eq_true rfl), (Nat.le_of_ble_eq_true rfl), (Nat.le_of_ble_eq_true rfl), (Nat.le_of_ble_eq_true rfl)⟩ ?_
  show sh_cW _ _ (_, _, [.ref (A (10 + u18_5))]) K L _ _ _ _ _
  refine sh_cp (fun w Z k => sh_astore_n dc_Hall_signalFirst_8 rfl (by decide) k) ?_
  refine sh_cp (fun w Z k => sh_aload_n dc_Hall_signalFirst_9 rfl rfl k) ?_
  refine sh_cp (fun w Z k => sh_ifnonnull (tgt := 14) dc_Hall_signalFirst_10 (by decide) k) ?_
  refine sh_cp (fun w Z k => sh_aload_n dc_Hall_signalFirst_14 rfl rfl k) ?_
  refine sh_cp (fun w Z k => sh_aload_n dc_Hall_signalFirst_15 rfl rfl k) ?_
  refine sh_cget 0 4 dc_Hall_signalFirst_16 cw_o0 rfl (by decide) fl_Hall_35 rfl rfl rfl rfl ?_
  refine sh_cp (fun w Z k => sh_aload_n dc_Hall_signalFirst_19 rfl rfl k) ?_
  refine sh_cget (10 + u18_5) 8 dc_Hall_signalFirst_20 (cw_ow (by omega)) rfl (by decide) fl_Hall_288 rfl rfl rfl rfl ?_
  refine sh_cp (fun w Z k => sh_dsub dc_Hall_signalFirst_23 v3_23 k) ?_
  refine sh_ccall (fun w hw => sh_virtU (As := [.double (FP.dsub (L 11 0) (L 8 u18_5))]) dc_Hall_signalFirst_24 lm_Sync_addWaited wd_764 wd_765 (Or.inl wd_717) ⟨by decide, by decide⟩ (by decide +kernel) wd_722 wd_766 rfl rfl (Nat.le_of_ble_eq_true rfl) (hw _ _ (cw_oc (by omega) hk_s)) rfl) (ct_Sync_addWaited_Condition_1 (s := s) (x := FP.dsub (L 11 0) (L 8 u18_5)) (by omega) hk_s v4_24) ⟨(Nat.le_of_ble_eq_true rfl), (Nat.le_of_ble_eq_true rfl), (Nat.le_of_ble_eq_true rfl), (Nat.le_of_ble_eq_true rfl)⟩ ?_
  show sh_cW _ _ (_, _, []) (sh_u2 K 21 s ((K 21 s) + 1)) (sh_u2 L 20 s (FP.dadd (L 20 s) (FP.dsub (L 11 0) (L 8 u18_5)))) _ _ _ _ _
  refine sh_cp (fun w Z k => sh_aload_n dc_Hall_signalFirst_27 rfl rfl k) ?_
  refine sh_cp (fun w Z k => sh_aload_n dc_Hall_signalFirst_28 rfl rfl k) ?_
  refine sh_ccall (fun w hw => sh_virtU (As := [.ref (A (10 + u18_5))]) dc_Hall_signalFirst_29 lm_Sync_dequeue wd_767 wd_768 (Or.inl wd_702) ⟨by decide, by decide⟩ (by decide +kernel) wd_707 wd_769 rfl rfl (Nat.le_of_ble_eq_true rfl) (hw _ _ (cw_oc (by omega) ((congrArg cw_cl (sh_u2_row (by decide) _)).trans hk_s))) rfl) (cl_deq_Condition (s := s) (t := u18_5) (l := l) (by omega) (by omega) (cw_row_up (by decide) hr) ((congrArg cw_cl (sh_u2_row (by decide) _)).trans hk_s)) ⟨(Nat.le_of_ble_eq_true rfl), (Nat.le_of_ble_eq_true rfl), (Nat.le_of_ble_eq_true rfl), (Nat.le_of_ble_eq_true rfl)⟩ ?_
  show sh_cW _ _ (_, _, []) (sp_deq (sh_u2 K 21 s ((K 21 s) + 1)) s u18_5 l) (sh_u2 L 20 s (FP.dadd (L 20 s) (FP.dsub (L 11 0) (L 8 u18_5)))) _ _ _ _ _
  refine sh_cp (fun w Z k => sh_aload_n dc_Hall_signalFirst_32 rfl rfl k) ?_
  refine sh_cp (fun w Z k => sh_aload_n dc_Hall_signalFirst_33 rfl rfl k) ?_
  refine sh_cp (fun w Z k => sh_aload_n dc_Hall_signalFirst_34 rfl rfl k) ?_
  refine sh_cget (20 + s) 4 dc_Hall_signalFirst_35 (cw_oc (by omega) ((congrArg cw_cl (Eq.trans (sp_deq_keep (by decide) _) (sh_u2_row (by decide) _))).trans hk_s)) rfl (by decide) fl_Hall_151 rfl rfl rfl rfl ?_
  refine sh_ctv (cw_rf_n (Eq.trans (Eq.trans (sp_deq_keep (by decide) _) (sh_u2_row (by decide) _)) eq) (by omega)) ?_
  refine sh_cp (fun w Z k => sh_iconst (v := 1) dc_Hall_signalFirst_38 (by decide) k) ?_
  refine sh_ccall (fun w hw => sh_virt (As := [.ref (A (10 + u18_5)), .ref (A (20 + q)), .int 1]) dc_Hall_signalFirst_39 lm_Hall_queueForLock ln_Hall_165 wd_740 wd_25 rfl rfl (Nat.le_of_ble_eq_true rfl) (hw _ _ cw_o0) rfl) (cl_qfl (t := u18_5) (s := q) (x := 1) (l := l39) (by omega) (by omega) v5_39 v6_39 v7_39 ((congrArg cw_cl (Eq.trans (sp_deq_keep (by decide) _) (sh_u2_row (by decide) _))).trans hk_q)) ⟨(Nat.le_of_ble_eq_true rfl), (Nat.le_of_ble_eq_true rfl), (Nat.le_of_ble_eq_true rfl), (Nat.le_of_ble_eq_true rfl)⟩ ?_
  show sh_cW _ _ (_, _, []) (sp_qfl (sp_deq (sh_u2 K 21 s ((K 21 s) + 1)) s u18_5 l) (sh_u2 L 20 s (FP.dadd (L 20 s) (FP.dsub (L 11 0) (L 8 u18_5)))) q u18_5 1 l39).1 (sp_qfl (sp_deq (sh_u2 K 21 s ((K 21 s) + 1)) s u18_5 l) (sh_u2 L 20 s (FP.dadd (L 20 s) (FP.dsub (L 11 0) (L 8 u18_5)))) q u18_5 1 l39).2 _ _ _ _ _
  exact sh_ce (fun w => sh_return dc_Hall_signalFirst_42 rfl (by decide) (by decide))
theorem ct_Hall_giveUp_Condition_1 {A : Nat → Nat} {K : sh_II} {L : sh_DD} {t : Nat} {s : Nat} {q : Nat} {x : Int32} {l : List Nat} {l32 : List Nat} (ht : t < 6) (hs : s < 8) (hq : q < 8) (eq : K 16 s = nI q) (ep : K 5 t = nI s) (hr : cw_row K s l) (hk_s : cw_cl (K 12 s) = 8) (hk_q : cw_cl (K 12 q) = 4) (v0_32 : cw_row (sp_deq K s t l) q l32) (v1_32 : l32.length < 6) (v2_32 : sp_qok (sp_deq K s t l) L q t x l32) : sh_cM A md_Hall_giveUp [.ref (A 0), .ref (A (10 + t)), .int x] K L (.inl none) (sp_qfl (sp_deq K s t l) L q t x l32).1 (sp_qfl (sp_deq K s t l) L q t x l32).2 := by
  refine sh_cp (fun w Z k => sh_aload_n dc_Hall_giveUp_0 rfl rfl k) ?_
  refine sh_cget (10 + t) 4 dc_Hall_giveUp_1 (cw_ow (by omega)) rfl (by decide) fl_Hall_298 rfl rfl rfl rfl ?_
  refine sh_ctv (cw_rf_n ep (by omega)) ?_
  refine sh_cp (fun w Z k => sh_astore_n dc_Hall_giveUp_4 rfl (by decide) k) ?_
  refine sh_cp (fun w Z k => sh_aload_n dc_Hall_giveUp_5 rfl rfl k) ?_
  refine sh_cinstY (20 + s) dc_Hall_giveUp_6 wd_424 (cw_oc (by omega) hk_s) rfl (Or.inl rfl) ?_
  refine sh_cp (fun w Z k => sh_if_eq (tgt := 38) dc_Hall_giveUp_9 (by decide) (fun z => absurd z (by decide)) (fun _ => k)) ?_
  refine sh_cp (fun w Z k => sh_aload_n dc_Hall_giveUp_12 rfl rfl k) ?_
  refine sh_ccastY (20 + s) dc_Hall_giveUp_13 wd_424 (cw_oc (by omega) hk_s) rfl (Or.inl rfl) ?_
  refine sh_cp (fun w Z k => sh_astore dc_Hall_giveUp_16 (by decide) k) ?_
  refine sh_cp (fun w Z k => sh_aload dc_Hall_giveUp_18 rfl k) ?_
  refine sh_cp (fun w Z k => sh_aload_n dc_Hall_giveUp_20 rfl rfl k) ?_
  refine sh_ccall (fun w hw => sh_virtU (As := [.ref (A (10 + t))]) dc_Hall_giveUp_21 lm_Sync_dequeue wd_767 wd_768 (Or.inl wd_702) ⟨by decide, by decide⟩ (by decide +kernel) wd_707 wd_769 rfl rfl (Nat.le_of_ble_eq_true rfl) (hw _ _ (cw_oc (by omega) hk_s)) rfl) (cl_deq_Condition (s := s) (t := t) (l := l) (by omega) (by omega) hr hk_s) ⟨(Nat.le_of_ble_eq_true rfl), (Nat.le_of_ble_eq_true rfl), (Nat.le_of_ble_eq_true rfl), (Nat.le_of_ble_eq_true rfl)⟩ ?_
  show sh_cW _ _ (_, _, []) (sp_deq K s t l) L _ _ _ _ _
  refine sh_cp (fun w Z k => sh_aload_n dc_Hall_giveUp_24 rfl rfl k) ?_
  refine sh_cp (fun w Z k => sh_aload_n dc_Hall_giveUp_25 rfl rfl k) ?_
  refine sh_cp (fun w Z k => sh_aload dc_Hall_giveUp_26 rfl k) ?_
  refine sh_cget (20 + s) 4 dc_Hall_giveUp_28 (cw_oc (by omega) ((congrArg cw_cl (sp_deq_keep (by decide) _)).trans hk_s)) rfl (by decide) fl_Hall_151 rfl rfl rfl rfl ?_
  refine sh_ctv (cw_rf_n (Eq.trans (sp_deq_keep (by decide) _) eq) (by omega)) ?_
  refine sh_cp (fun w Z k => sh_iload_n dc_Hall_giveUp_31 rfl rfl k) ?_
  refine sh_ccall (fun w hw => sh_virt (As := [.ref (A (10 + t)), .ref (A (20 + q)), .int x]) dc_Hall_giveUp_32 lm_Hall_queueForLock ln_Hall_165 wd_740 wd_25 rfl rfl (Nat.le_of_ble_eq_true rfl) (hw _ _ cw_o0) rfl) (cl_qfl (t := t) (s := q) (x := x) (l := l32) (by omega) (by omega) v0_32 v1_32 v2_32 ((congrArg cw_cl (sp_deq_keep (by decide) _)).trans hk_q)) ⟨(Nat.le_of_ble_eq_true rfl), (Nat.le_of_ble_eq_true rfl), (Nat.le_of_ble_eq_true rfl), (Nat.le_of_ble_eq_true rfl)⟩ ?_
  show sh_cW _ _ (_, _, []) (sp_qfl (sp_deq K s t l) L q t x l32).1 (sp_qfl (sp_deq K s t l) L q t x l32).2 _ _ _ _ _
  refine sh_cp (fun w Z k => sh_goto_ (tgt := 72) dc_Hall_giveUp_35 (by decide) k) ?_
  exact sh_ce (fun w => sh_return dc_Hall_giveUp_72 rfl (by decide) (by decide))
theorem ct_Hall_giveUp_Lock_1 {A : Nat → Nat} {K : sh_II} {L : sh_DD} {t : Nat} {s : Nat} {x : Int32} {l : List Nat} {l69 : List Nat} (ht : t < 6) (hs : s < 8) (ep : K 5 t = nI s) (hr : cw_row K s l) (hk_s : cw_cl (K 12 s) = 4) (v0_69 : cw_row (sh_u2 (sh_u2 (sp_deq K s t l) 4 t x) 27 t 0) s l69) (v1_69 : sp_svok (L 11 0) s l69.length (sh_u2 (sh_u2 (sp_deq K s t l) 4 t x) 27 t 0) L l69) : sh_cM A md_Hall_giveUp [.ref (A 0), .ref (A (10 + t)), .int x] K L (.inl none) (sp_serve (L 11 0) s l69.length (sh_u2 (sh_u2 (sp_deq K s t l) 4 t x) 27 t 0) L l69).1 (sp_serve (L 11 0) s l69.length (sh_u2 (sh_u2 (sp_deq K s t l) 4 t x) 27 t 0) L l69).2 := by
  refine sh_cp (fun w Z k => sh_aload_n dc_Hall_giveUp_0 rfl rfl k) ?_
  refine sh_cget (10 + t) 4 dc_Hall_giveUp_1 (cw_ow (by omega)) rfl (by decide) fl_Hall_298 rfl rfl rfl rfl ?_
  refine sh_ctv (cw_rf_n ep (by omega)) ?_
  refine sh_cp (fun w Z k => sh_astore_n dc_Hall_giveUp_4 rfl (by decide) k) ?_
  refine sh_cp (fun w Z k => sh_aload_n dc_Hall_giveUp_5 rfl rfl k) ?_
  refine sh_cinstNo (20 + s) dc_Hall_giveUp_6 wd_424 (cw_ol (by omega) hk_s) rfl wn_88 ?_
  refine sh_cp (fun w Z k => sh_if_eq (tgt := 38) dc_Hall_giveUp_9 (by decide) (fun _ => k) (fun z => absurd (by decide) z)) ?_
  refine sh_cp (fun w Z k => sh_aload_n dc_Hall_giveUp_38 rfl rfl k) ?_
  refine sh_cinstY (20 + s) dc_Hall_giveUp_39 wd_473 (cw_ol (by omega) hk_s) rfl (Or.inr wd_1089) ?_
  refine sh_cp (fun w Z k => sh_if_eq (tgt := 72) dc_Hall_giveUp_42 (by decide) (fun z => absurd z (by decide)) (fun _ => k)) ?_
  refine sh_cp (fun w Z k => sh_aload_n dc_Hall_giveUp_45 rfl rfl k) ?_
  refine sh_ccastY (20 + s) dc_Hall_giveUp_46 wd_473 (cw_ol (by omega) hk_s) rfl (Or.inr wd_1089) ?_
  refine sh_cp (fun w Z k => sh_astore dc_Hall_giveUp_49 (by decide) k) ?_
  refine sh_cp (fun w Z k => sh_aload dc_Hall_giveUp_51 rfl k) ?_
  refine sh_cp (fun w Z k => sh_aload_n dc_Hall_giveUp_53 rfl rfl k) ?_
  refine sh_ccall (fun w hw => sh_virtU (As := [.ref (A (10 + t))]) dc_Hall_giveUp_54 lm_Sync_dequeue wd_781 wd_701 (Or.inl wd_702) ⟨by decide, by decide⟩ (by decide +kernel) wd_707 wd_704 rfl rfl (Nat.le_of_ble_eq_true rfl) (hw _ _ (cw_ol (by omega) hk_s)) rfl) (cl_deq_Lock (s := s) (t := t) (l := l) (by omega) (by omega) hr hk_s) ⟨(Nat.le_of_ble_eq_true rfl), (Nat.le_of_ble_eq_true rfl), (Nat.le_of_ble_eq_true rfl), (Nat.le_of_ble_eq_true rfl)⟩ ?_
  show sh_cW _ _ (_, _, []) (sp_deq K s t l) L _ _ _ _ _
  refine sh_cp (fun w Z k => sh_aload_n dc_Hall_giveUp_57 rfl rfl k) ?_
  refine sh_cp (fun w Z k => sh_iload_n dc_Hall_giveUp_58 rfl rfl k) ?_
  refine sh_ccall (fun w hw => sh_virt (As := [.int x]) dc_Hall_giveUp_59 lm_Worker_finish ln_Hall_89 wd_496 wd_6 rfl rfl (Nat.le_of_ble_eq_true rfl) (hw _ _ (cw_ow (by omega))) rfl) (ct_Worker_finish_1 (t := t) (x := x) (by omega)) ⟨(Nat.le_of_ble_eq_true rfl), (Nat.le_of_ble_eq_true rfl), (Nat.le_of_ble_eq_true rfl), (Nat.le_of_ble_eq_true rfl)⟩ ?_
  show sh_cW _ _ (_, _, [.int x]) (sh_u2 (sh_u2 (sp_deq K s t l) 4 t x) 27 t 0) L _ _ _ _ _
  refine sh_cp (fun w Z k => sh_pop dc_Hall_giveUp_62 rfl k) ?_
  refine sh_cp (fun w Z k => sh_aload dc_Hall_giveUp_63 rfl k) ?_
  refine sh_cp (fun w Z k => sh_aload_n dc_Hall_giveUp_65 rfl rfl k) ?_
  refine sh_cget 0 4 dc_Hall_giveUp_66 cw_o0 rfl (by decide) fl_Hall_35 rfl rfl rfl rfl ?_
  refine sh_ccall (fun w hw => sh_virtU (As := [.double (L 11 0)]) dc_Hall_giveUp_69 lm_Gate_serve wd_667 wd_669 (Or.inl wd_747) ⟨by decide, by decide⟩ (by decide +kernel) wd_668 wd_671 rfl rfl (Nat.le_of_ble_eq_true rfl) (hw _ _ (cw_ol (by omega) ((congrArg cw_cl (Eq.trans (sh_u2_row (by decide) _) (Eq.trans (sh_u2_row (by decide) _) (sp_deq_keep (by decide) _)))).trans hk_s))) rfl) (cl_serve_Lock (s := s) (p := L 11 0) (l := l69) (by omega) v0_69 v1_69 ((congrArg cw_cl (Eq.trans (sh_u2_row (by decide) _) (Eq.trans (sh_u2_row (by decide) _) (sp_deq_keep (by decide) _)))).trans hk_s)) ⟨(Nat.le_of_ble_eq_true rfl), (Nat.le_of_ble_eq_true rfl), (Nat.le_of_ble_eq_true rfl), (Nat.le_of_ble_eq_true rfl)⟩ ?_
  show sh_cW _ _ (_, _, []) (sp_serve (L 11 0) s l69.length (sh_u2 (sh_u2 (sp_deq K s t l) 4 t x) 27 t 0) L l69).1 (sp_serve (L 11 0) s l69.length (sh_u2 (sh_u2 (sp_deq K s t l) 4 t x) 27 t 0) L l69).2 _ _ _ _ _
  exact sh_ce (fun w => sh_return dc_Hall_giveUp_72 rfl (by decide) (by decide))
theorem ct_Hall_giveUp_Semaphore_1 {A : Nat → Nat} {K : sh_II} {L : sh_DD} {t : Nat} {s : Nat} {x : Int32} {l : List Nat} {l69 : List Nat} (ht : t < 6) (hs : s < 8) (ep : K 5 t = nI s) (hr : cw_row K s l) (hk_s : cw_cl (K 12 s) = 5) (v0_69 : cw_row (sh_u2 (sh_u2 (sp_deq K s t l) 4 t x) 27 t 0) s l69) (v1_69 : sp_svok (L 11 0) s l69.length (sh_u2 (sh_u2 (sp_deq K s t l) 4 t x) 27 t 0) L l69) : sh_cM A md_Hall_giveUp [.ref (A 0), .ref (A (10 + t)), .int x] K L (.inl none) (sp_serve (L 11 0) s l69.length (sh_u2 (sh_u2 (sp_deq K s t l) 4 t x) 27 t 0) L l69).1 (sp_serve (L 11 0) s l69.length (sh_u2 (sh_u2 (sp_deq K s t l) 4 t x) 27 t 0) L l69).2 := by
  refine sh_cp (fun w Z k => sh_aload_n dc_Hall_giveUp_0 rfl rfl k) ?_
  refine sh_cget (10 + t) 4 dc_Hall_giveUp_1 (cw_ow (by omega)) rfl (by decide) fl_Hall_298 rfl rfl rfl rfl ?_
  refine sh_ctv (cw_rf_n ep (by omega)) ?_
  refine sh_cp (fun w Z k => sh_astore_n dc_Hall_giveUp_4 rfl (by decide) k) ?_
  refine sh_cp (fun w Z k => sh_aload_n dc_Hall_giveUp_5 rfl rfl k) ?_
  refine sh_cinstNo (20 + s) dc_Hall_giveUp_6 wd_424 (cw_oe (by omega) hk_s) rfl wn_90 ?_
  refine sh_cp (fun w Z k => sh_if_eq (tgt := 38) dc_Hall_giveUp_9 (by decide) (fun _ => k) (fun z => absurd (by decide) z)) ?_
  refine sh_cp (fun w Z k => sh_aload_n dc_Hall_giveUp_38 rfl rfl k) ?_
  refine sh_cinstY (20 + s) dc_Hall_giveUp_39 wd_473 (cw_oe (by omega) hk_s) rfl (Or.inr wd_1090) ?_
  refine sh_cp (fun w Z k => sh_if_eq (tgt := 72) dc_Hall_giveUp_42 (by decide) (fun z => absurd z (by decide)) (fun _ => k)) ?_
  refine sh_cp (fun w Z k => sh_aload_n dc_Hall_giveUp_45 rfl rfl k) ?_
  refine sh_ccastY (20 + s) dc_Hall_giveUp_46 wd_473 (cw_oe (by omega) hk_s) rfl (Or.inr wd_1090) ?_
  refine sh_cp (fun w Z k => sh_astore dc_Hall_giveUp_49 (by decide) k) ?_
  refine sh_cp (fun w Z k => sh_aload dc_Hall_giveUp_51 rfl k) ?_
  refine sh_cp (fun w Z k => sh_aload_n dc_Hall_giveUp_53 rfl rfl k) ?_
  refine sh_ccall (fun w hw => sh_virtU (As := [.ref (A (10 + t))]) dc_Hall_giveUp_54 lm_Sync_dequeue wd_781 wd_701 (Or.inl wd_702) ⟨by decide, by decide⟩ (by decide +kernel) wd_707 wd_705 rfl rfl (Nat.le_of_ble_eq_true rfl) (hw _ _ (cw_oe (by omega) hk_s)) rfl) (cl_deq_Semaphore (s := s) (t := t) (l := l) (by omega) (by omega) hr hk_s) ⟨(Nat.le_of_ble_eq_true rfl), (Nat.le_of_ble_eq_true rfl), (Nat.le_of_ble_eq_true rfl), (Nat.le_of_ble_eq_true rfl)⟩ ?_
  show sh_cW _ _ (_, _, []) (sp_deq K s t l) L _ _ _ _ _
  refine sh_cp (fun w Z k => sh_aload_n dc_Hall_giveUp_57 rfl rfl k) ?_
  refine sh_cp (fun w Z k => sh_iload_n dc_Hall_giveUp_58 rfl rfl k) ?_
  refine sh_ccall (fun w hw => sh_virt (As := [.int x]) dc_Hall_giveUp_59 lm_Worker_finish ln_Hall_89 wd_496 wd_6 rfl rfl (Nat.le_of_ble_eq_true rfl) (hw _ _ (cw_ow (by omega))) rfl) (ct_Worker_finish_1 (t := t) (x := x) (by omega)) ⟨(Nat.le_of_ble_eq_true rfl), (Nat.le_of_ble_eq_true rfl), (Nat.le_of_ble_eq_true rfl), (Nat.le_of_ble_eq_true rfl)⟩ ?_
  show sh_cW _ _ (_, _, [.int x]) (sh_u2 (sh_u2 (sp_deq K s t l) 4 t x) 27 t 0) L _ _ _ _ _
  refine sh_cp (fun w Z k => sh_pop dc_Hall_giveUp_62 rfl k) ?_
  refine sh_cp (fun w Z k => sh_aload dc_Hall_giveUp_63 rfl k) ?_
  refine sh_cp (fun w Z k => sh_aload_n dc_Hall_giveUp_65 rfl rfl k) ?_
  refine sh_cget 0 4 dc_Hall_giveUp_66 cw_o0 rfl (by decide) fl_Hall_35 rfl rfl rfl rfl ?_
  refine sh_ccall (fun w hw => sh_virtU (As := [.double (L 11 0)]) dc_Hall_giveUp_69 lm_Gate_serve wd_667 wd_669 (Or.inl wd_747) ⟨by decide, by decide⟩ (by decide +kernel) wd_668 wd_672 rfl rfl (Nat.le_of_ble_eq_true rfl) (hw _ _ (cw_oe (by omega) ((congrArg cw_cl (Eq.trans (sh_u2_row (by decide) _) (Eq.trans (sh_u2_row (by decide) _) (sp_deq_keep (by decide) _)))).trans hk_s))) rfl) (cl_serve_Semaphore (s := s) (p := L 11 0) (l := l69) (by omega) v0_69 v1_69 ((congrArg cw_cl (Eq.trans (sh_u2_row (by decide) _) (Eq.trans (sh_u2_row (by decide) _) (sp_deq_keep (by decide) _)))).trans hk_s)) ⟨(Nat.le_of_ble_eq_true rfl), (Nat.le_of_ble_eq_true rfl), (Nat.le_of_ble_eq_true rfl), (Nat.le_of_ble_eq_true rfl)⟩ ?_
  show sh_cW _ _ (_, _, []) (sp_serve (L 11 0) s l69.length (sh_u2 (sh_u2 (sp_deq K s t l) 4 t x) 27 t 0) L l69).1 (sp_serve (L 11 0) s l69.length (sh_u2 (sh_u2 (sp_deq K s t l) 4 t x) 27 t 0) L l69).2 _ _ _ _ _
  exact sh_ce (fun w => sh_return dc_Hall_giveUp_72 rfl (by decide) (by decide))
theorem ct_Hall_giveUp_Latch_1 {A : Nat → Nat} {K : sh_II} {L : sh_DD} {t : Nat} {s : Nat} {x : Int32} {l : List Nat} {l69 : List Nat} (ht : t < 6) (hs : s < 8) (ep : K 5 t = nI s) (hr : cw_row K s l) (hk_s : cw_cl (K 12 s) = 6) (v0_69 : cw_row (sh_u2 (sh_u2 (sp_deq K s t l) 4 t x) 27 t 0) s l69) (v1_69 : sp_svok (L 11 0) s l69.length (sh_u2 (sh_u2 (sp_deq K s t l) 4 t x) 27 t 0) L l69) : sh_cM A md_Hall_giveUp [.ref (A 0), .ref (A (10 + t)), .int x] K L (.inl none) (sp_serve (L 11 0) s l69.length (sh_u2 (sh_u2 (sp_deq K s t l) 4 t x) 27 t 0) L l69).1 (sp_serve (L 11 0) s l69.length (sh_u2 (sh_u2 (sp_deq K s t l) 4 t x) 27 t 0) L l69).2 := by
  refine sh_cp (fun w Z k => sh_aload_n dc_Hall_giveUp_0 rfl rfl k) ?_
  refine sh_cget (10 + t) 4 dc_Hall_giveUp_1 (cw_ow (by omega)) rfl (by decide) fl_Hall_298 rfl rfl rfl rfl ?_
  refine sh_ctv (cw_rf_n ep (by omega)) ?_
  refine sh_cp (fun w Z k => sh_astore_n dc_Hall_giveUp_4 rfl (by decide) k) ?_
  refine sh_cp (fun w Z k => sh_aload_n dc_Hall_giveUp_5 rfl rfl k) ?_
  refine sh_cinstNo (20 + s) dc_Hall_giveUp_6 wd_424 (cw_oa (by omega) hk_s) rfl wn_91 ?_
  refine sh_cp (fun w Z k => sh_if_eq (tgt := 38) dc_Hall_giveUp_9 (by decide) (fun _ => k) (fun z => absurd (by decide) z)) ?_
  refine sh_cp (fun w Z k => sh_aload_n dc_Hall_giveUp_38 rfl rfl k) ?_
  refine sh_cinstY (20 + s) dc_Hall_giveUp_39 wd_473 (cw_oa (by omega) hk_s) rfl (Or.inr wd_1088) ?_
  refine sh_cp (fun w Z k => sh_if_eq (tgt := 72) dc_Hall_giveUp_42 (by decide) (fun z => absurd z (by decide)) (fun _ => k)) ?_
  refine sh_cp (fun w Z k => sh_aload_n dc_Hall_giveUp_45 rfl rfl k) ?_
  refine sh_ccastY (20 + s) dc_Hall_giveUp_46 wd_473 (cw_oa (by omega) hk_s) rfl (Or.inr wd_1088) ?_
  refine sh_cp (fun w Z k => sh_astore dc_Hall_giveUp_49 (by decide) k) ?_
  refine sh_cp (fun w Z k => sh_aload dc_Hall_giveUp_51 rfl k) ?_
  refine sh_cp (fun w Z k => sh_aload_n dc_Hall_giveUp_53 rfl rfl k) ?_
  refine sh_ccall (fun w hw => sh_virtU (As := [.ref (A (10 + t))]) dc_Hall_giveUp_54 lm_Sync_dequeue wd_781 wd_701 (Or.inl wd_702) ⟨by decide, by decide⟩ (by decide +kernel) wd_707 wd_703 rfl rfl (Nat.le_of_ble_eq_true rfl) (hw _ _ (cw_oa (by omega) hk_s)) rfl) (cl_deq_Latch (s := s) (t := t) (l := l) (by omega) (by omega) hr hk_s) ⟨(Nat.le_of_ble_eq_true rfl), (Nat.le_of_ble_eq_true rfl), (Nat.le_of_ble_eq_true rfl), (Nat.le_of_ble_eq_true rfl)⟩ ?_
  show sh_cW _ _ (_, _, []) (sp_deq K s t l) L _ _ _ _ _
  refine sh_cp (fun w Z k => sh_aload_n dc_Hall_giveUp_57 rfl rfl k) ?_
  refine sh_cp (fun w Z k => sh_iload_n dc_Hall_giveUp_58 rfl rfl k) ?_
  refine sh_ccall (fun w hw => sh_virt (As := [.int x]) dc_Hall_giveUp_59 lm_Worker_finish ln_Hall_89 wd_496 wd_6 rfl rfl (Nat.le_of_ble_eq_true rfl) (hw _ _ (cw_ow (by omega))) rfl) (ct_Worker_finish_1 (t := t) (x := x) (by omega)) ⟨(Nat.le_of_ble_eq_true rfl), (Nat.le_of_ble_eq_true rfl), (Nat.le_of_ble_eq_true rfl), (Nat.le_of_ble_eq_true rfl)⟩ ?_
  show sh_cW _ _ (_, _, [.int x]) (sh_u2 (sh_u2 (sp_deq K s t l) 4 t x) 27 t 0) L _ _ _ _ _
  refine sh_cp (fun w Z k => sh_pop dc_Hall_giveUp_62 rfl k) ?_
  refine sh_cp (fun w Z k => sh_aload dc_Hall_giveUp_63 rfl k) ?_
  refine sh_cp (fun w Z k => sh_aload_n dc_Hall_giveUp_65 rfl rfl k) ?_
  refine sh_cget 0 4 dc_Hall_giveUp_66 cw_o0 rfl (by decide) fl_Hall_35 rfl rfl rfl rfl ?_
  refine sh_ccall (fun w hw => sh_virtU (As := [.double (L 11 0)]) dc_Hall_giveUp_69 lm_Gate_serve wd_667 wd_669 (Or.inl wd_747) ⟨by decide, by decide⟩ (by decide +kernel) wd_668 wd_670 rfl rfl (Nat.le_of_ble_eq_true rfl) (hw _ _ (cw_oa (by omega) ((congrArg cw_cl (Eq.trans (sh_u2_row (by decide) _) (Eq.trans (sh_u2_row (by decide) _) (sp_deq_keep (by decide) _)))).trans hk_s))) rfl) (cl_serve_Latch (s := s) (p := L 11 0) (l := l69) (by omega) v0_69 v1_69 ((congrArg cw_cl (Eq.trans (sh_u2_row (by decide) _) (Eq.trans (sh_u2_row (by decide) _) (sp_deq_keep (by decide) _)))).trans hk_s)) ⟨(Nat.le_of_ble_eq_true rfl), (Nat.le_of_ble_eq_true rfl), (Nat.le_of_ble_eq_true rfl), (Nat.le_of_ble_eq_true rfl)⟩ ?_
  show sh_cW _ _ (_, _, []) (sp_serve (L 11 0) s l69.length (sh_u2 (sh_u2 (sp_deq K s t l) 4 t x) 27 t 0) L l69).1 (sp_serve (L 11 0) s l69.length (sh_u2 (sh_u2 (sp_deq K s t l) 4 t x) 27 t 0) L l69).2 _ _ _ _ _
  exact sh_ce (fun w => sh_return dc_Hall_giveUp_72 rfl (by decide) (by decide))
theorem ct_Hall_giveUp_Shared_1 {A : Nat → Nat} {K : sh_II} {L : sh_DD} {t : Nat} {s : Nat} {x : Int32} {l : List Nat} {l69 : List Nat} (ht : t < 6) (hs : s < 8) (ep : K 5 t = nI s) (hr : cw_row K s l) (hk_s : cw_cl (K 12 s) = 7) (v0_69 : cw_row (sh_u2 (sh_u2 (sp_deq K s t l) 4 t x) 27 t 0) s l69) (v1_69 : sp_svok (L 11 0) s l69.length (sh_u2 (sh_u2 (sp_deq K s t l) 4 t x) 27 t 0) L l69) : sh_cM A md_Hall_giveUp [.ref (A 0), .ref (A (10 + t)), .int x] K L (.inl none) (sp_serve (L 11 0) s l69.length (sh_u2 (sh_u2 (sp_deq K s t l) 4 t x) 27 t 0) L l69).1 (sp_serve (L 11 0) s l69.length (sh_u2 (sh_u2 (sp_deq K s t l) 4 t x) 27 t 0) L l69).2 := by
  refine sh_cp (fun w Z k => sh_aload_n dc_Hall_giveUp_0 rfl rfl k) ?_
  refine sh_cget (10 + t) 4 dc_Hall_giveUp_1 (cw_ow (by omega)) rfl (by decide) fl_Hall_298 rfl rfl rfl rfl ?_
  refine sh_ctv (cw_rf_n ep (by omega)) ?_
  refine sh_cp (fun w Z k => sh_astore_n dc_Hall_giveUp_4 rfl (by decide) k) ?_
  refine sh_cp (fun w Z k => sh_aload_n dc_Hall_giveUp_5 rfl rfl k) ?_
  refine sh_cinstNo (20 + s) dc_Hall_giveUp_6 wd_424 (cw_oh (by omega) hk_s) rfl wn_92 ?_
  refine sh_cp (fun w Z k => sh_if_eq (tgt := 38) dc_Hall_giveUp_9 (by decide) (fun _ => k) (fun z => absurd (by decide) z)) ?_
  refine sh_cp (fun w Z k => sh_aload_n dc_Hall_giveUp_38 rfl rfl k) ?_
  refine sh_cinstY (20 + s) dc_Hall_giveUp_39 wd_473 (cw_oh (by omega) hk_s) rfl (Or.inr wd_1091) ?_
  refine sh_cp (fun w Z k => sh_if_eq (tgt := 72) dc_Hall_giveUp_42 (by decide) (fun z => absurd z (by decide)) (fun _ => k)) ?_
  refine sh_cp (fun w Z k => sh_aload_n dc_Hall_giveUp_45 rfl rfl k) ?_
  refine sh_ccastY (20 + s) dc_Hall_giveUp_46 wd_473 (cw_oh (by omega) hk_s) rfl (Or.inr wd_1091) ?_
  refine sh_cp (fun w Z k => sh_astore dc_Hall_giveUp_49 (by decide) k) ?_
  refine sh_cp (fun w Z k => sh_aload dc_Hall_giveUp_51 rfl k) ?_
  refine sh_cp (fun w Z k => sh_aload_n dc_Hall_giveUp_53 rfl rfl k) ?_
  refine sh_ccall (fun w hw => sh_virtU (As := [.ref (A (10 + t))]) dc_Hall_giveUp_54 lm_Sync_dequeue wd_781 wd_701 (Or.inl wd_702) ⟨by decide, by decide⟩ (by decide +kernel) wd_707 wd_706 rfl rfl (Nat.le_of_ble_eq_true rfl) (hw _ _ (cw_oh (by omega) hk_s)) rfl) (cl_deq_Shared (s := s) (t := t) (l := l) (by omega) (by omega) hr hk_s) ⟨(Nat.le_of_ble_eq_true rfl), (Nat.le_of_ble_eq_true rfl), (Nat.le_of_ble_eq_true rfl), (Nat.le_of_ble_eq_true rfl)⟩ ?_
  show sh_cW _ _ (_, _, []) (sp_deq K s t l) L _ _ _ _ _
  refine sh_cp (fun w Z k => sh_aload_n dc_Hall_giveUp_57 rfl rfl k) ?_
  refine sh_cp (fun w Z k => sh_iload_n dc_Hall_giveUp_58 rfl rfl k) ?_
  refine sh_ccall (fun w hw => sh_virt (As := [.int x]) dc_Hall_giveUp_59 lm_Worker_finish ln_Hall_89 wd_496 wd_6 rfl rfl (Nat.le_of_ble_eq_true rfl) (hw _ _ (cw_ow (by omega))) rfl) (ct_Worker_finish_1 (t := t) (x := x) (by omega)) ⟨(Nat.le_of_ble_eq_true rfl), (Nat.le_of_ble_eq_true rfl), (Nat.le_of_ble_eq_true rfl), (Nat.le_of_ble_eq_true rfl)⟩ ?_
  show sh_cW _ _ (_, _, [.int x]) (sh_u2 (sh_u2 (sp_deq K s t l) 4 t x) 27 t 0) L _ _ _ _ _
  refine sh_cp (fun w Z k => sh_pop dc_Hall_giveUp_62 rfl k) ?_
  refine sh_cp (fun w Z k => sh_aload dc_Hall_giveUp_63 rfl k) ?_
  refine sh_cp (fun w Z k => sh_aload_n dc_Hall_giveUp_65 rfl rfl k) ?_
  refine sh_cget 0 4 dc_Hall_giveUp_66 cw_o0 rfl (by decide) fl_Hall_35 rfl rfl rfl rfl ?_
  refine sh_ccall (fun w hw => sh_virtU (As := [.double (L 11 0)]) dc_Hall_giveUp_69 lm_Gate_serve wd_667 wd_669 (Or.inl wd_747) ⟨by decide, by decide⟩ (by decide +kernel) wd_668 wd_673 rfl rfl (Nat.le_of_ble_eq_true rfl) (hw _ _ (cw_oh (by omega) ((congrArg cw_cl (Eq.trans (sh_u2_row (by decide) _) (Eq.trans (sh_u2_row (by decide) _) (sp_deq_keep (by decide) _)))).trans hk_s))) rfl) (cl_serve_Shared (s := s) (p := L 11 0) (l := l69) (by omega) v0_69 v1_69 ((congrArg cw_cl (Eq.trans (sh_u2_row (by decide) _) (Eq.trans (sh_u2_row (by decide) _) (sp_deq_keep (by decide) _)))).trans hk_s)) ⟨(Nat.le_of_ble_eq_true rfl), (Nat.le_of_ble_eq_true rfl), (Nat.le_of_ble_eq_true rfl), (Nat.le_of_ble_eq_true rfl)⟩ ?_
  show sh_cW _ _ (_, _, []) (sp_serve (L 11 0) s l69.length (sh_u2 (sh_u2 (sp_deq K s t l) 4 t x) 27 t 0) L l69).1 (sp_serve (L 11 0) s l69.length (sh_u2 (sh_u2 (sp_deq K s t l) 4 t x) 27 t 0) L l69).2 _ _ _ _ _
  exact sh_ce (fun w => sh_return dc_Hall_giveUp_72 rfl (by decide) (by decide))
/-- a thread gives up: on a condition it goes back to the lock; on a gate it is done, and the gate is served -/
def sp_GU (K : sh_II) (L : sh_DD) (t : Nat) (x : Int32) (K' : sh_II) (L' : sh_DD) : Prop := ∃ s l, s < 8 ∧ K 5 t = nI s ∧ cw_row K s l ∧
  ((cw_cl (K 12 s) = 8 ∧ ∃ q l2, q < 8 ∧ K 16 s = nI q ∧ cw_cl (K 12 q) = 4 ∧ cw_row (sp_deq K s t l) q l2 ∧ l2.length < 6 ∧ sp_qok (sp_deq K s t l) L q t x l2 ∧ K' = (sp_qfl (sp_deq K s t l) L q t x l2).1 ∧ L' = (sp_qfl (sp_deq K s t l) L q t x l2).2) ∨
  ((cw_cl (K 12 s) = 4 ∨ cw_cl (K 12 s) = 5 ∨ cw_cl (K 12 s) = 6 ∨ cw_cl (K 12 s) = 7) ∧ sp_svok (L 11 0) s (sp_rm l t).length (sh_u2 (sh_u2 (sp_deq K s t l) 4 t x) 27 t 0) L (sp_rm l t) ∧ K' = (sp_serve (L 11 0) s (sp_rm l t).length (sh_u2 (sh_u2 (sp_deq K s t l) 4 t x) 27 t 0) L (sp_rm l t)).1 ∧ L' = (sp_serve (L 11 0) s (sp_rm l t).length (sh_u2 (sh_u2 (sp_deq K s t l) 4 t x) 27 t 0) L (sp_rm l t)).2))
theorem cl_giveUp {A : Nat → Nat} {K K' : sh_II} {L L' : sh_DD} {t : Nat} {x : Int32} (ht : t < 6) (hg : sp_GU K L t x K' L') : sh_cM A md_Hall_giveUp [.ref (A 0), .ref (A (10 + t)), .int x] K L (.inl none) K' L' := by
  obtain ⟨s, l, hs, ep, hr, h⟩ := hg
  have hrow : cw_row (sh_u2 (sh_u2 (sp_deq K s t l) 4 t x) 27 t 0) s (sp_rm l t) := cw_row_up (by decide) (cw_row_up (by decide) (cw_row_deq hr))
  rcases h with ⟨hk, q, l2, hq, eq, hkq, h1, h2, h3, rfl, rfl⟩ | ⟨hk, h1, rfl, rfl⟩
  · exact ct_Hall_giveUp_Condition_1 ht hs hq eq ep hr hk hkq h1 h2 h3
  · rcases hk with hk | hk | hk | hk
    · exact ct_Hall_giveUp_Lock_1 ht hs ep hr hk hrow h1
    · exact ct_Hall_giveUp_Semaphore_1 ht hs ep hr hk hrow h1
    · exact ct_Hall_giveUp_Latch_1 ht hs ep hr hk hrow h1
    · exact ct_Hall_giveUp_Shared_1 ht hs ep hr hk hrow h1
/-- the first waiter t of the condition s is signalled -/
def sp_SF (K : sh_II) (L : sh_DD) (s : Nat) (K' : sh_II) (L' : sh_DD) : Prop := ∃ q l l2 t, q < 8 ∧ K 16 s = nI q ∧ cw_row K s l ∧ cw_cl (K 12 q) = 4 ∧ l.head? = some t ∧ vf_n64 (FP.dsub (L 11 0) (L 8 t)) ∧ vf_n64 (FP.dadd (L 20 s) (FP.dsub (L 11 0) (L 8 t))) ∧
  cw_row (sp_deq (sh_u2 K 21 s ((K 21 s) + 1)) s t l) q l2 ∧ l2.length < 6 ∧ sp_qok (sp_deq (sh_u2 K 21 s ((K 21 s) + 1)) s t l) (sh_u2 L 20 s (FP.dadd (L 20 s) (FP.dsub (L 11 0) (L 8 t)))) q t 1 l2 ∧
  K' = (sp_qfl (sp_deq (sh_u2 K 21 s ((K 21 s) + 1)) s t l) (sh_u2 L 20 s (FP.dadd (L 20 s) (FP.dsub (L 11 0) (L 8 t)))) q t 1 l2).1 ∧ L' = (sp_qfl (sp_deq (sh_u2 K 21 s ((K 21 s) + 1)) s t l) (sh_u2 L 20 s (FP.dadd (L 20 s) (FP.dsub (L 11 0) (L 8 t)))) q t 1 l2).2
theorem cl_signalFirst {A : Nat → Nat} {K K' : sh_II} {L L' : sh_DD} {s : Nat} (hs : s < 8) (hg : sp_SF K L s K' L') (hk : cw_cl (K 12 s) = 8) : sh_cM A md_Hall_signalFirst [.ref (A 0), .ref (A (20 + s))] K L (.inl none) K' L' := by
  obtain ⟨q, l, l2, t, hq, eq, hr, hkq, hh, v1, v2, h1, h2, h3, rfl, rfl⟩ := hg
  cases l with
  | nil => cases hh
  | cons a r =>
    cases hh
    exact ct_Hall_signalFirst_3 hs hq eq hr hk hkq (fun h => by cases (sp_len0 hr).mp h) (hr.2.2 0 t rfl).2 (hr.2.2 0 t rfl).1 v1 v2 h1 h2 h3
