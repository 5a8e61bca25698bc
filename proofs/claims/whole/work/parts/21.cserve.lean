theorem cb_Gate_serve_Lockp_0_1 {A : Nat → Nat} {K K9 : sh_II} {L L9 : sh_DD} {v9 : Option Value ⊕ Nat} {s : Nat} {p : UInt64} (hs : s < 8) (hk_s : cw_cl (K 12 s) = 4) (k9 : sh_cW A md_Gate_serve (11, [(0, .ref (A (20 + s))), (1, .double p), (3, .int (K 19 s)), (4, .int 0)], []) K L 0 0 v9 K9 L9) : sh_cW A md_Gate_serve (0, [(0, .ref (A (20 + s))), (1, .double p)], []) K L 0 0 v9 K9 L9 := by
  refine sh_cp (fun w Z k => sh_aload_n dc_Gate_serve_0 rfl rfl k) ?_
  refine sh_cget (20 + s) 1 dc_Gate_serve_1 (cw_ol (by omega) hk_s) rfl (by decide) fl_Gate_7 rfl rfl rfl rfl ?_
  refine sh_ccall (fun w hw => sh_virt (As := []) dc_Gate_serve_4 lm_Waiters_size ln_Gate_19 wd_552 wd_12 rfl rfl (Nat.le_of_ble_eq_true rfl) (hw _ _ (cw_ot (by omega) (cw_nz hk_s (by decide)))) rfl) (ct_Waiters_size_1 (s := s) (by omega) (cw_nz hk_s (by decide))) ⟨(Nat.le_of_ble_eq_true rfl), (Nat.le_of_ble_eq_true rfl), (Nat.le_of_ble_eq_true rfl), (Nat.le_of_ble_eq_true rfl)⟩ ?_
  show sh_cW _ _ (_, _, [.int (K 19 s)]) K L _ _ _ _ _
  refine sh_cp (fun w Z k => sh_istore_n dc_Gate_serve_7 rfl (by decide) k) ?_
  refine sh_cp (fun w Z k => sh_iconst (v := 0) dc_Gate_serve_8 (by decide) k) ?_
  refine sh_cp (fun w Z k => sh_istore dc_Gate_serve_9 (by decide) k) ?_
  refine sh_clv [2, 3, 1, 0] rfl ?_
  exact k9
theorem cb_Gate_serve_Locke_11_1 {A : Nat → Nat} {K : sh_II} {L : sh_DD} {s : Nat} {p : UInt64} {z : Nat} {i : Nat} (hs : s < 8) (hx : (nI z) ≤ (nI i)) (hk_s : cw_cl (K 12 s) = 4) : sh_cW A md_Gate_serve (11, [(0, .ref (A (20 + s))), (1, .double p), (3, .int (nI z)), (4, .int (nI i))], []) K L 0 0 (.inl none) K L := by
  refine sh_cp (fun w Z k => sh_iload dc_Gate_serve_11 rfl k) ?_
  refine sh_cp (fun w Z k => sh_iload_n dc_Gate_serve_13 rfl rfl k) ?_
  refine sh_cp (fun w Z k => sh_icmp_ge (tgt := 93) dc_Gate_serve_14 (by decide) (fun _ => k) (fun z => absurd hx z)) ?_
  exact sh_ce (fun w => sh_return dc_Gate_serve_93 rfl (by decide) (by decide))
theorem cb_Gate_serve_Lock_11_1 {A : Nat → Nat} {K : sh_II} {L : sh_DD} {s : Nat} {p : UInt64} {z : Nat} {i : Nat} {l : List Nat} (hs : s < 8) (hr : cw_row K s l) (ho : cw_okr K) (hx : ¬ (nI z) ≤ (nI i)) (hk_s : cw_cl (K 12 s) = 4) (c0_18 : (sp_nx K L s l) = none) : sh_cW A md_Gate_serve (11, [(0, .ref (A (20 + s))), (1, .double p), (3, .int (nI z)), (4, .int (nI i))], []) K L 0 0 (.inl none) K L := by
  refine sh_cp (fun w Z k => sh_iload dc_Gate_serve_11 rfl k) ?_
  refine sh_cp (fun w Z k => sh_iload_n dc_Gate_serve_13 rfl rfl k) ?_
  refine sh_cp (fun w Z k => sh_icmp_ge (tgt := 93) dc_Gate_serve_14 (by decide) (fun z => absurd z hx) (fun _ => k)) ?_
  refine sh_cp (fun w Z k => sh_aload_n dc_Gate_serve_17 rfl rfl k) ?_
  refine sh_ccall (fun w hw => sh_virtU (As := []) dc_Gate_serve_18 lm_Gate_next wd_676 wd_678 (Or.inr ⟨_, _, _, wd_677, wd_697⟩) ⟨by decide, by decide⟩ (by decide +kernel) wd_677 wd_680 rfl rfl (Nat.le_of_ble_eq_true rfl) (hw _ _ (cw_ol (by omega) hk_s)) rfl) (cl_next_Lock (s := s) (l := l) (by omega) hr hk_s) ⟨(Nat.le_of_ble_eq_true rfl), (Nat.le_of_ble_eq_true rfl), (Nat.le_of_ble_eq_true rfl), (Nat.le_of_ble_eq_true rfl)⟩ ?_
  show sh_cW _ _ (_, _, [va_rf ((sp_nx K L s l).map fun u => A (10 + u))]) K L _ _ _ _ _
  refine sh_ctv (show _ = Value.null by rw [c0_18]; rfl) ?_
  refine sh_cp (fun w Z k => sh_astoreN dc_Gate_serve_21 (by decide) k) ?_
  refine sh_cp (fun w Z k => sh_aloadq (x := none) dc_Gate_serve_23 rfl k) ?_
  show sh_cW _ _ (_, _, .null :: _) _ _ _ _ _ _ _
  refine sh_cp (fun w Z k => sh_ifnullN (tgt := 42) dc_Gate_serve_25 (by decide) k) ?_
  exact sh_ce (fun w => sh_return dc_Gate_serve_42 rfl (by decide) (by decide))
theorem cb_Gate_serve_Lock_11_2 {A : Nat → Nat} {K : sh_II} {L : sh_DD} {s : Nat} {p : UInt64} {z : Nat} {i : Nat} {l : List Nat} {q18 : Nat} (hs : s < 8) (hr : cw_row K s l) (ho : cw_okr K) (hx : ¬ (nI z) ≤ (nI i)) (hk_s : cw_cl (K 12 s) = 4) (hq18 : q18 < 6) (c1_18 : (sp_nx K L s l) = some q18) (v2_36 : (K 6 q18) = 0 ∨ (K 6 q18) = 1) (c3_39 : (sp_b (sp_can K q18 s (K 6 q18))) = 0) : sh_cW A md_Gate_serve (11, [(0, .ref (A (20 + s))), (1, .double p), (3, .int (nI z)), (4, .int (nI i))], []) K L 0 0 (.inl none) K L := by
  refine sh_cp (fun w Z k => sh_iload dc_Gate_serve_11 rfl k) ?_
  refine sh_cp (fun w Z k => sh_iload_n dc_Gate_serve_13 rfl rfl k) ?_
  refine sh_cp (fun w Z k => sh_icmp_ge (tgt := 93) dc_Gate_serve_14 (by decide) (fun z => absurd z hx) (fun _ => k)) ?_
  refine sh_cp (fun w Z k => sh_aload_n dc_Gate_serve_17 rfl rfl k) ?_
  refine sh_ccall (fun w hw => sh_virtU (As := []) dc_Gate_serve_18 lm_Gate_next wd_676 wd_678 (Or.inr ⟨_, _, _, wd_677, wd_697⟩) ⟨by decide, by decide⟩ (by decide +kernel) wd_677 wd_680 rfl rfl (Nat.le_of_ble_eq_true rfl) (hw _ _ (cw_ol (by omega) hk_s)) rfl) (cl_next_Lock (s := s) (l := l) (by omega) hr hk_s) ⟨(Nat.le_of_ble_eq_true rfl), (Nat.le_of_ble_eq_true rfl), (Nat.le_of_ble_eq_true rfl), (Nat.le_of_ble_eq_true rfl)⟩ ?_
  show sh_cW _ _ (_, _, [va_rf ((sp_nx K L s l).map fun u => A (10 + u))]) K L _ _ _ _ _
  refine sh_ctv (show _ = Value.ref (A (10 + q18)) by rw [c1_18]; rfl) ?_
  refine sh_cp (fun w Z k => sh_astore dc_Gate_serve_21 (by decide) k) ?_
  refine sh_cp (fun w Z k => sh_aload dc_Gate_serve_23 rfl k) ?_
  refine sh_cp (fun w Z k => sh_ifnull dc_Gate_serve_25 k) ?_
  refine sh_cp (fun w Z k => sh_aload_n dc_Gate_serve_28 rfl rfl k) ?_
  refine sh_cp (fun w Z k => sh_aload dc_Gate_serve_29 rfl k) ?_
  refine sh_cp (fun w Z k => sh_aload dc_Gate_serve_31 rfl k) ?_
  refine sh_cget (10 + q18) 5 dc_Gate_serve_33 (cw_ow (by omega)) rfl (by decide) fl_Gate_27 rfl rfl rfl rfl ?_
  refine sh_ccall (fun w hw => sh_virtU (As := [.ref (A (10 + q18)), .int (K 6 q18)]) dc_Gate_serve_36 lm_Lock_canTake wd_699 wd_572 (Or.inl wd_571) ⟨by decide, by decide⟩ (by decide +kernel) wd_577 wd_576 rfl rfl (Nat.le_of_ble_eq_true rfl) (hw _ _ (cw_ol (by omega) hk_s)) rfl) (cl_can_Lock (s := s) (t := q18) (m := K 6 q18) (by omega) (by omega) ho v2_36 hk_s) ⟨(Nat.le_of_ble_eq_true rfl), (Nat.le_of_ble_eq_true rfl), (Nat.le_of_ble_eq_true rfl), (Nat.le_of_ble_eq_true rfl)⟩ ?_
  show sh_cW _ _ (_, _, [.int (sp_b (sp_can K q18 s (K 6 q18)))]) K L _ _ _ _ _
  refine sh_cp (fun w Z k => sh_if_ne (tgt := 43) dc_Gate_serve_39 (by decide) (fun z => absurd c3_39 z) (fun _ => k)) ?_
  exact sh_ce (fun w => sh_return dc_Gate_serve_42 rfl (by decide) (by decide))
theorem cb_Gate_serve_Lock_11_3 {A : Nat → Nat} {K K9 : sh_II} {L L9 : sh_DD} {v9 : Option Value ⊕ Nat} {s : Nat} {p : UInt64} {z : Nat} {i : Nat} {l : List Nat} {q18 : Nat} (hs : s < 8) (hr : cw_row K s l) (ho : cw_okr K) (hx : ¬ (nI z) ≤ (nI i)) (hk_s : cw_cl (K 12 s) = 4) (hq18 : q18 < 6) (c1_18 : (sp_nx K L s l) = some q18) (v2_36 : (K 6 q18) = 0 ∨ (K 6 q18) = 1) (c3_39 : ¬ (sp_b (sp_can K q18 s (K 6 q18))) = 0) (v4_83 : vf_n64 (FP.dsub p (L 8 q18))) (v5_84 : vf_n64 (FP.dadd (L 20 s) (FP.dsub p (L 8 q18)))) (k9 : sh_cW A md_Gate_serve (11, [(0, .ref (A (20 + s))), (1, .double p), (3, .int (nI z)), (4, .int (nI (i + 1)))], []) (sh_u2 (sh_u2 (sh_u2 (sp_tk (sh_u2 (sh_u2 (sp_row K s (sp_rm l q18)) 5 q18 (-1)) 26 q18 0) q18 s (K 6 q18) (K 9 q18)) 4 q18 (K 10 q18)) 27 q18 0) 21 s ((K 21 s) + 1)) (sh_u2 L 20 s (FP.dadd (L 20 s) (FP.dsub p (L 8 q18)))) 0 0 v9 K9 L9) : sh_cW A md_Gate_serve (11, [(0, .ref (A (20 + s))), (1, .double p), (3, .int (nI z)), (4, .int (nI i))], []) K L 0 0 v9 K9 L9 := by
  refine sh_cp (fun w Z k => sh_iload dc_Gate_serve_11 rfl k) ?_
  refine sh_cp (fun w Z k => sh_iload_n dc_Gate_serve_13 rfl rfl k) ?_
  refine sh_cp (fun w Z k => sh_icmp_ge (tgt := 93) dc_Gate_serve_14 (by decide) (fun z => absurd z hx) (fun _ => k)) ?_
  refine sh_cp (fun w Z k => sh_aload_n dc_Gate_serve_17 rfl rfl k) ?_
  refine sh_ccall (fun w hw => sh_virtU (As := []) dc_Gate_serve_18 lm_Gate_next wd_676 wd_678 (Or.inr ⟨_, _, _, wd_677, wd_697⟩) ⟨by decide, by decide⟩ (by decide +kernel) wd_677 wd_680 rfl rfl (Nat.le_of_ble_eq_true rfl) (hw _ _ (cw_ol (by omega) hk_s)) rfl) (cl_next_Lock (s := s) (l := l) (by omega) hr hk_s) ⟨(Nat.le_of_ble_eq_true rfl), (Nat.le_of_ble_eq_true rfl), (Nat.le_of_ble_eq_true rfl), (Nat.le_of_ble_eq_true rfl)⟩ ?_
  show sh_cW _ _ (_, _, [va_rf ((sp_nx K L s l).map fun u => A (10 + u))]) K L _ _ _ _ _
  refine sh_ctv (show _ = Value.ref (A (10 + q18)) by rw [c1_18]; rfl) ?_
  refine sh_cp (fun w Z k => sh_astore dc_Gate_serve_21 (by decide) k) ?_
  refine sh_cp (fun w Z k => sh_aload dc_Gate_serve_23 rfl k) ?_
  refine sh_cp (fun w Z k => sh_ifnull dc_Gate_serve_25 k) ?_
  refine sh_cp (fun w Z k => sh_aload_n dc_Gate_serve_28 rfl rfl k) ?_
  refine sh_cp (fun w Z k => sh_aload dc_Gate_serve_29 rfl k) ?_
  refine sh_cp (fun w Z k => sh_aload dc_Gate_serve_31 rfl k) ?_
  refine sh_cget (10 + q18) 5 dc_Gate_serve_33 (cw_ow (by omega)) rfl (by decide) fl_Gate_27 rfl rfl rfl rfl ?_
  refine sh_ccall (fun w hw => sh_virtU (As := [.ref (A (10 + q18)), .int (K 6 q18)]) dc_Gate_serve_36 lm_Lock_canTake wd_699 wd_572 (Or.inl wd_571) ⟨by decide, by decide⟩ (by decide +kernel) wd_577 wd_576 rfl rfl (Nat.le_of_ble_eq_true rfl) (hw _ _ (cw_ol (by omega) hk_s)) rfl) (cl_can_Lock (s := s) (t := q18) (m := K 6 q18) (by omega) (by omega) ho v2_36 hk_s) ⟨(Nat.le_of_ble_eq_true rfl), (Nat.le_of_ble_eq_true rfl), (Nat.le_of_ble_eq_true rfl), (Nat.le_of_ble_eq_true rfl)⟩ ?_
  show sh_cW _ _ (_, _, [.int (sp_b (sp_can K q18 s (K 6 q18)))]) K L _ _ _ _ _
  refine sh_cp (fun w Z k => sh_if_ne (tgt := 43) dc_Gate_serve_39 (by decide) (fun _ => k) (fun z => absurd z c3_39)) ?_
  refine sh_cp (fun w Z k => sh_aload_n dc_Gate_serve_43 rfl rfl k) ?_
  refine sh_cp (fun w Z k => sh_aload dc_Gate_serve_44 rfl k) ?_
  refine sh_ccall (fun w hw => sh_virtU (As := [.ref (A (10 + q18))]) dc_Gate_serve_46 lm_Sync_dequeue wd_700 wd_701 (Or.inl wd_702) ⟨by decide, by decide⟩ (by decide +kernel) wd_707 wd_704 rfl rfl (Nat.le_of_ble_eq_true rfl) (hw _ _ (cw_ol (by omega) hk_s)) rfl) (ct_Sync_dequeue_Lock_1 (t := q18) (s := s) (l := l) (by omega) (by omega) hr hk_s) ⟨(Nat.le_of_ble_eq_true rfl), (Nat.le_of_ble_eq_true rfl), (Nat.le_of_ble_eq_true rfl), (Nat.le_of_ble_eq_true rfl)⟩ ?_
  show sh_cW _ _ (_, _, []) (sh_u2 (sh_u2 (sp_row K s (sp_rm l q18)) 5 q18 (-1)) 26 q18 0) L _ _ _ _ _
  refine sh_cp (fun w Z k => sh_aload_n dc_Gate_serve_49 rfl rfl k) ?_
  refine sh_cp (fun w Z k => sh_aload dc_Gate_serve_50 rfl k) ?_
  refine sh_cp (fun w Z k => sh_aload dc_Gate_serve_52 rfl k) ?_
  refine sh_cget (10 + q18) 5 dc_Gate_serve_54 (cw_ow (by omega)) rfl (by decide) fl_Gate_27 rfl rfl rfl rfl ?_
  refine sh_cti (show (sh_u2 (sh_u2 (sp_row K s (sp_rm l q18)) 5 q18 (-1)) 26 q18 0) 6 q18 = K 6 q18 from (Eq.trans (sh_u2_row (by decide) _) (Eq.trans (sh_u2_row (by decide) _) (sp_row_keep (by decide) _)))) ?_
  refine sh_cp (fun w Z k => sh_aload dc_Gate_serve_57 rfl k) ?_
  refine sh_cget (10 + q18) 9 dc_Gate_serve_59 (cw_ow (by omega)) rfl (by decide) fl_Gate_41 rfl rfl rfl rfl ?_
  refine sh_cti (show (sh_u2 (sh_u2 (sp_row K s (sp_rm l q18)) 5 q18 (-1)) 26 q18 0) 9 q18 = K 9 q18 from (Eq.trans (sh_u2_row (by decide) _) (Eq.trans (sh_u2_row (by decide) _) (sp_row_keep (by decide) _)))) ?_
  refine sh_ccall (fun w hw => sh_virtU (As := [.ref (A (10 + q18)), .int (K 6 q18), .int (K 9 q18)]) dc_Gate_serve_62 lm_Lock_take wd_713 wd_591 (Or.inl wd_590) ⟨by decide, by decide⟩ (by decide +kernel) wd_596 wd_595 rfl rfl (Nat.le_of_ble_eq_true rfl) (hw _ _ (cw_ol (by omega) ((congrArg cw_cl (Eq.trans (sh_u2_row (by decide) _) (Eq.trans (sh_u2_row (by decide) _) (sp_row_keep (by decide) _)))).trans hk_s))) rfl) (cl_take_Lock (s := s) (t := q18) (m := K 6 q18) (e := K 9 q18) (by omega) (by omega) ((congrArg cw_cl (Eq.trans (sh_u2_row (by decide) _) (Eq.trans (sh_u2_row (by decide) _) (sp_row_keep (by decide) _)))).trans hk_s)) ⟨(Nat.le_of_ble_eq_true rfl), (Nat.le_of_ble_eq_true rfl), (Nat.le_of_ble_eq_true rfl), (Nat.le_of_ble_eq_true rfl)⟩ ?_
  show sh_cW _ _ (_, _, []) (sp_tk (sh_u2 (sh_u2 (sp_row K s (sp_rm l q18)) 5 q18 (-1)) 26 q18 0) q18 s (K 6 q18) (K 9 q18)) L _ _ _ _ _
  refine sh_cp (fun w Z k => sh_aload dc_Gate_serve_65 rfl k) ?_
  refine sh_cp (fun w Z k => sh_aload dc_Gate_serve_67 rfl k) ?_
  refine sh_cget (10 + q18) 10 dc_Gate_serve_69 (cw_ow (by omega)) rfl (by decide) fl_Gate_48 rfl rfl rfl rfl ?_
  refine sh_cti (show (sp_tk (sh_u2 (sh_u2 (sp_row K s (sp_rm l q18)) 5 q18 (-1)) 26 q18 0) q18 s (K 6 q18) (K 9 q18)) 10 q18 = K 10 q18 from (Eq.trans (sp_tk_keep (by decide) _) (Eq.trans (sh_u2_row (by decide) _) (Eq.trans (sh_u2_row (by decide) _) (sp_row_keep (by decide) _))))) ?_
  refine sh_ccall (fun w hw => sh_virt (As := [.int (K 10 q18)]) dc_Gate_serve_72 lm_Worker_finish ln_Gate_51 wd_496 wd_6 rfl rfl (Nat.le_of_ble_eq_true rfl) (hw _ _ (cw_ow (by omega))) rfl) (ct_Worker_finish_1 (t := q18) (x := K 10 q18) (by omega)) ⟨(Nat.le_of_ble_eq_true rfl), (Nat.le_of_ble_eq_true rfl), (Nat.le_of_ble_eq_true rfl), (Nat.le_of_ble_eq_true rfl)⟩ ?_
  show sh_cW _ _ (_, _, [.int (K 10 q18)]) (sh_u2 (sh_u2 (sp_tk (sh_u2 (sh_u2 (sp_row K s (sp_rm l q18)) 5 q18 (-1)) 26 q18 0) q18 s (K 6 q18) (K 9 q18)) 4 q18 (K 10 q18)) 27 q18 0) L _ _ _ _ _
  refine sh_cp (fun w Z k => sh_pop dc_Gate_serve_75 rfl k) ?_
  refine sh_cp (fun w Z k => sh_aload_n dc_Gate_serve_76 rfl rfl k) ?_
  refine sh_cp (fun w Z k => sh_dload_n dc_Gate_serve_77 rfl rfl k) ?_
  refine sh_cp (fun w Z k => sh_aload dc_Gate_serve_78 rfl k) ?_
  refine sh_cget (10 + q18) 8 dc_Gate_serve_80 (cw_ow (by omega)) rfl (by decide) fl_Gate_55 rfl rfl rfl rfl ?_
  refine sh_cp (fun w Z k => sh_dsub dc_Gate_serve_83 v4_83 k) ?_
  refine sh_ccall (fun w hw => sh_virtU (As := [.double (FP.dsub p (L 8 q18))]) dc_Gate_serve_84 lm_Sync_addWaited wd_715 wd_716 (Or.inl wd_717) ⟨by decide, by decide⟩ (by decide +kernel) wd_722 wd_719 rfl rfl (Nat.le_of_ble_eq_true rfl) (hw _ _ (cw_ol (by omega) ((congrArg cw_cl (Eq.trans (sh_u2_row (by decide) _) (Eq.trans (sh_u2_row (by decide) _) (Eq.trans (sp_tk_keep (by decide) _) (Eq.trans (sh_u2_row (by decide) _) (Eq.trans (sh_u2_row (by decide) _) (sp_row_keep (by decide) _))))))).trans hk_s))) rfl) (ct_Sync_addWaited_Lock_1 (s := s) (x := FP.dsub p (L 8 q18)) (by omega) ((congrArg cw_cl (Eq.trans (sh_u2_row (by decide) _) (Eq.trans (sh_u2_row (by decide) _) (Eq.trans (sp_tk_keep (by decide) _) (Eq.trans (sh_u2_row (by decide) _) (Eq.trans (sh_u2_row (by decide) _) (sp_row_keep (by decide) _))))))).trans hk_s) v5_84) ⟨(Nat.le_of_ble_eq_true rfl), (Nat.le_of_ble_eq_true rfl), (Nat.le_of_ble_eq_true rfl), (Nat.le_of_ble_eq_true rfl)⟩ ?_
  show sh_cW _ _ (_, _, []) (sh_u2 (sh_u2 (sh_u2 (sp_tk (sh_u2 (sh_u2 (sp_row K s (sp_rm l q18)) 5 q18 (-1)) 26 q18 0) q18 s (K 6 q18) (K 9 q18)) 4 q18 (K 10 q18)) 27 q18 0) 21 s (((sh_u2 (sh_u2 (sp_tk (sh_u2 (sh_u2 (sp_row K s (sp_rm l q18)) 5 q18 (-1)) 26 q18 0) q18 s (K 6 q18) (K 9 q18)) 4 q18 (K 10 q18)) 27 q18 0) 21 s) + 1)) (sh_u2 L 20 s (FP.dadd (L 20 s) (FP.dsub p (L 8 q18)))) _ _ _ _ _
  refine sh_cst (show (sh_u2 (sh_u2 (sh_u2 (sp_tk (sh_u2 (sh_u2 (sp_row K s (sp_rm l q18)) 5 q18 (-1)) 26 q18 0) q18 s (K 6 q18) (K 9 q18)) 4 q18 (K 10 q18)) 27 q18 0) 21 s (((sh_u2 (sh_u2 (sp_tk (sh_u2 (sh_u2 (sp_row K s (sp_rm l q18)) 5 q18 (-1)) 26 q18 0) q18 s (K 6 q18) (K 9 q18)) 4 q18 (K 10 q18)) 27 q18 0) 21 s) + 1)) = (sh_u2 (sh_u2 (sh_u2 (sp_tk (sh_u2 (sh_u2 (sp_row K s (sp_rm l q18)) 5 q18 (-1)) 26 q18 0) q18 s (K 6 q18) (K 9 q18)) 4 q18 (K 10 q18)) 27 q18 0) 21 s ((K 21 s) + 1)) from by rw [(show (sh_u2 (sh_u2 (sp_tk (sh_u2 (sh_u2 (sp_row K s (sp_rm l q18)) 5 q18 (-1)) 26 q18 0) q18 s (K 6 q18) (K 9 q18)) 4 q18 (K 10 q18)) 27 q18 0) 21 s = K 21 s from (Eq.trans (sh_u2_row (by decide) _) (Eq.trans (sh_u2_row (by decide) _) (Eq.trans (sp_tk_keep (by decide) _) (Eq.trans (sh_u2_row (by decide) _) (Eq.trans (sh_u2_row (by decide) _) (sp_row_keep (by decide) _)))))))]) rfl ?_
  refine sh_cp (fun w Z k => sh_iinc (v := nI (i + 1)) dc_Gate_serve_87 rfl (sh_nadd rfl (rfl : (1 : Int32) = nI 1)) (by decide) k) ?_
  refine sh_cp (fun w Z k => sh_goto_ (tgt := 11) dc_Gate_serve_90 (by decide) k) ?_
  refine sh_clv [2, 3, 4, 0] rfl ?_
  exact k9
theorem cb_Gate_serve_Semaphorep_0_1 {A : Nat → Nat} {K K9 : sh_II} {L L9 : sh_DD} {v9 : Option Value ⊕ Nat} {s : Nat} {p : UInt64} (hs : s < 8) (hk_s : cw_cl (K 12 s) = 5) (k9 : sh_cW A md_Gate_serve (11, [(0, .ref (A (20 + s))), (1, .double p), (3, .int (K 19 s)), (4, .int 0)], []) K L 0 0 v9 K9 L9) : sh_cW A md_Gate_serve (0, [(0, .ref (A (20 + s))), (1, .double p)], []) K L 0 0 v9 K9 L9 := by
  refine sh_cp (fun w Z k => sh_aload_n dc_Gate_serve_0 rfl rfl k) ?_
  refine sh_cget (20 + s) 1 dc_Gate_serve_1 (cw_oe (by omega) hk_s) rfl (by decide) fl_Gate_7 rfl rfl rfl rfl ?_
  refine sh_ccall (fun w hw => sh_virt (As := []) dc_Gate_serve_4 lm_Waiters_size ln_Gate_19 wd_552 wd_12 rfl rfl (Nat.le_of_ble_eq_true rfl) (hw _ _ (cw_ot (by omega) (cw_nz hk_s (by decide)))) rfl) (ct_Waiters_size_1 (s := s) (by omega) (cw_nz hk_s (by decide))) ⟨(Nat.le_of_ble_eq_true rfl), (Nat.le_of_ble_eq_true rfl), (Nat.le_of_ble_eq_true rfl), (Nat.le_of_ble_eq_true rfl)⟩ ?_
  show sh_cW _ _ (_, _, [.int (K 19 s)]) K L _ _ _ _ _
  refine sh_cp (fun w Z k => sh_istore_n dc_Gate_serve_7 rfl (by decide) k) ?_
  refine sh_cp (fun w Z k => sh_iconst (v := 0) dc_Gate_serve_8 (by decide) k) ?_
  refine sh_cp (fun w Z k => sh_istore dc_Gate_serve_9 (by decide) k) ?_
  refine sh_clv [2, 3, 1, 0] rfl ?_
  exact k9
theorem cb_Gate_serve_Semaphoree_11_1 {A : Nat → Nat} {K : sh_II} {L : sh_DD} {s : Nat} {p : UInt64} {z : Nat} {i : Nat} (hs : s < 8) (hx : (nI z) ≤ (nI i)) (hk_s : cw_cl (K 12 s) = 5) : sh_cW A md_Gate_serve (11, [(0, .ref (A (20 + s))), (1, .double p), (3, .int (nI z)), (4, .int (nI i))], []) K L 0 0 (.inl none) K L := by
  refine sh_cp (fun w Z k => sh_iload dc_Gate_serve_11 rfl k) ?_
  refine sh_cp (fun w Z k => sh_iload_n dc_Gate_serve_13 rfl rfl k) ?_
  refine sh_cp (fun w Z k => sh_icmp_ge (tgt := 93) dc_Gate_serve_14 (by decide) (fun _ => k) (fun z => absurd hx z)) ?_
  exact sh_ce (fun w => sh_return dc_Gate_serve_93 rfl (by decide) (by decide))
theorem cb_Gate_serve_Semaphore_11_1 {A : Nat → Nat} {K : sh_II} {L : sh_DD} {s : Nat} {p : UInt64} {z : Nat} {i : Nat} {l : List Nat} (hs : s < 8) (hr : cw_row K s l) (ho : cw_okr K) (hx : ¬ (nI z) ≤ (nI i)) (hk_s : cw_cl (K 12 s) = 5) (c0_18 : (sp_nx K L s l) = none) : sh_cW A md_Gate_serve (11, [(0, .ref (A (20 + s))), (1, .double p), (3, .int (nI z)), (4, .int (nI i))], []) K L 0 0 (.inl none) K L := by
  refine sh_cp (fun w Z k => sh_iload dc_Gate_serve_11 rfl k) ?_
  refine sh_cp (fun w Z k => sh_iload_n dc_Gate_serve_13 rfl rfl k) ?_
  refine sh_cp (fun w Z k => sh_icmp_ge (tgt := 93) dc_Gate_serve_14 (by decide) (fun z => absurd z hx) (fun _ => k)) ?_
  refine sh_cp (fun w Z k => sh_aload_n dc_Gate_serve_17 rfl rfl k) ?_
  refine sh_ccall (fun w hw => sh_virtU (As := []) dc_Gate_serve_18 lm_Semaphore_next wd_676 wd_678 (Or.inr ⟨_, _, _, wd_677, wd_697⟩) ⟨by decide, by decide⟩ (by decide +kernel) wd_682 wd_681 rfl rfl (Nat.le_of_ble_eq_true rfl) (hw _ _ (cw_oe (by omega) hk_s)) rfl) (cl_next_Semaphore (s := s) (l := l) (by omega) hr hk_s) ⟨(Nat.le_of_ble_eq_true rfl), (Nat.le_of_ble_eq_true rfl), (Nat.le_of_ble_eq_true rfl), (Nat.le_of_ble_eq_true rfl)⟩ ?_
  show sh_cW _ _ (_, _, [va_rf ((sp_nx K L s l).map fun u => A (10 + u))]) K L _ _ _ _ _
  refine sh_ctv (show _ = Value.null by rw [c0_18]; rfl) ?_
  refine sh_cp (fun w Z k => sh_astoreN dc_Gate_serve_21 (by decide) k) ?_
  refine sh_cp (fun w Z k => sh_aloadq (x := none) dc_Gate_serve_23 rfl k) ?_
  show sh_cW _ _ (_, _, .null :: _) _ _ _ _ _ _ _
  refine sh_cp (fun w Z k => sh_ifnullN (tgt := 42) dc_Gate_serve_25 (by decide) k) ?_
  exact sh_ce (fun w => sh_return dc_Gate_serve_42 rfl (by decide) (by decide))
theorem cb_Gate_serve_Semaphore_11_2 {A : Nat → Nat} {K : sh_II} {L : sh_DD} {s : Nat} {p : UInt64} {z : Nat} {i : Nat} {l : List Nat} {q18 : Nat} (hs : s < 8) (hr : cw_row K s l) (ho : cw_okr K) (hx : ¬ (nI z) ≤ (nI i)) (hk_s : cw_cl (K 12 s) = 5) (hq18 : q18 < 6) (c1_18 : (sp_nx K L s l) = some q18) (v2_36 : (K 6 q18) = 0 ∨ (K 6 q18) = 1) (c3_39 : (sp_b (sp_can K q18 s (K 6 q18))) = 0) : sh_cW A md_Gate_serve (11, [(0, .ref (A (20 + s))), (1, .double p), (3, .int (nI z)), (4, .int (nI i))], []) K L 0 0 (.inl none) K L := by
  refine sh_cp (fun w Z k => sh_iload dc_Gate_serve_11 rfl k) ?_
  refine sh_cp (fun w Z k => sh_iload_n dc_Gate_serve_13 rfl rfl k) ?_
  refine sh_cp (fun w Z k => sh_icmp_ge (tgt := 93) dc_Gate_serve_14 (by decide) (fun z => absurd z hx) (fun _ => k)) ?_
  refine sh_cp (fun w Z k => sh_aload_n dc_Gate_serve_17 rfl rfl k) ?_
  refine sh_ccall (fun w hw => sh_virtU (As := []) dc_Gate_serve_18 lm_Semaphore_next wd_676 wd_678 (Or.inr ⟨_, _, _, wd_677, wd_697⟩) ⟨by decide, by decide⟩ (by decide +kernel) wd_682 wd_681 rfl rfl (Nat.le_of_ble_eq_true rfl) (hw _ _ (cw_oe (by omega) hk_s)) rfl) (cl_next_Semaphore (s := s) (l := l) (by omega) hr hk_s) ⟨(Nat.le_of_ble_eq_true rfl), (Nat.le_of_ble_eq_true rfl), (Nat.le_of_ble_eq_true rfl), (Nat.le_of_ble_eq_true rfl)⟩ ?_
  show sh_cW _ _ (_, _, [va_rf ((sp_nx K L s l).map fun u => A (10 + u))]) K L _ _ _ _ _
  refine sh_ctv (show _ = Value.ref (A (10 + q18)) by rw [c1_18]; rfl) ?_
  refine sh_cp (fun w Z k => sh_astore dc_Gate_serve_21 (by decide) k) ?_
  refine sh_cp (fun w Z k => sh_aload dc_Gate_serve_23 rfl k) ?_
  refine sh_cp (fun w Z k => sh_ifnull dc_Gate_serve_25 k) ?_
  refine sh_cp (fun w Z k => sh_aload_n dc_Gate_serve_28 rfl rfl k) ?_
  refine sh_cp (fun w Z k => sh_aload dc_Gate_serve_29 rfl k) ?_
  refine sh_cp (fun w Z k => sh_aload dc_Gate_serve_31 rfl k) ?_
  refine sh_cget (10 + q18) 5 dc_Gate_serve_33 (cw_ow (by omega)) rfl (by decide) fl_Gate_27 rfl rfl rfl rfl ?_
  refine sh_ccall (fun w hw => sh_virtU (As := [.ref (A (10 + q18)), .int (K 6 q18)]) dc_Gate_serve_36 lm_Semaphore_canTake wd_699 wd_572 (Or.inl wd_571) ⟨by decide, by decide⟩ (by decide +kernel) wd_580 wd_579 rfl rfl (Nat.le_of_ble_eq_true rfl) (hw _ _ (cw_oe (by omega) hk_s)) rfl) (cl_can_Semaphore (s := s) (t := q18) (m := K 6 q18) (by omega) (by omega) ho v2_36 hk_s) ⟨(Nat.le_of_ble_eq_true rfl), (Nat.le_of_ble_eq_true rfl), (Nat.le_of_ble_eq_true rfl), (Nat.le_of_ble_eq_true rfl)⟩ ?_
  show sh_cW _ _ (_, _, [.int (sp_b (sp_can K q18 s (K 6 q18)))]) K L _ _ _ _ _
  refine sh_cp (fun w Z k => sh_if_ne (tgt := 43) dc_Gate_serve_39 (by decide) (fun z => absurd c3_39 z) (fun _ => k)) ?_
  exact sh_ce (fun w => sh_return dc_Gate_serve_42 rfl (by decide) (by decide))
theorem cb_Gate_serve_Semaphore_11_3 {A : Nat → Nat} {K K9 : sh_II} {L L9 : sh_DD} {v9 : Option Value ⊕ Nat} {s : Nat} {p : UInt64} {z : Nat} {i : Nat} {l : List Nat} {q18 : Nat} (hs : s < 8) (hr : cw_row K s l) (ho : cw_okr K) (hx : ¬ (nI z) ≤ (nI i)) (hk_s : cw_cl (K 12 s) = 5) (hq18 : q18 < 6) (c1_18 : (sp_nx K L s l) = some q18) (v2_36 : (K 6 q18) = 0 ∨ (K 6 q18) = 1) (c3_39 : ¬ (sp_b (sp_can K q18 s (K 6 q18))) = 0) (v4_83 : vf_n64 (FP.dsub p (L 8 q18))) (v5_84 : vf_n64 (FP.dadd (L 20 s) (FP.dsub p (L 8 q18)))) (k9 : sh_cW A md_Gate_serve (11, [(0, .ref (A (20 + s))), (1, .double p), (3, .int (nI z)), (4, .int (nI (i + 1)))], []) (sh_u2 (sh_u2 (sh_u2 (sp_tk (sh_u2 (sh_u2 (sp_row K s (sp_rm l q18)) 5 q18 (-1)) 26 q18 0) q18 s (K 6 q18) (K 9 q18)) 4 q18 (K 10 q18)) 27 q18 0) 21 s ((K 21 s) + 1)) (sh_u2 L 20 s (FP.dadd (L 20 s) (FP.dsub p (L 8 q18)))) 0 0 v9 K9 L9) : sh_cW A md_Gate_serve (11, [(0, .ref (A (20 + s))), (1, .double p), (3, .int (nI z)), (4, .int (nI i))], []) K L 0 0 v9 K9 L9 := by
  refine sh_cp (fun w Z k => sh_iload dc_Gate_serve_11 rfl k) ?_
  refine sh_cp (fun w Z k => sh_iload_n dc_Gate_serve_13 rfl rfl k) ?_
  refine sh_cp (fun w Z k => sh_icmp_ge (tgt := 93) dc_Gate_serve_14 (by decide) (fun z => absurd z hx) (fun _ => k)) ?_
  refine sh_cp (fun w Z k => sh_aload_n dc_Gate_serve_17 rfl rfl k) ?_
  refine sh_ccall (fun w hw => sh_virtU (As := []) dc_Gate_serve_18 lm_Semaphore_next wd_676 wd_678 (Or.inr ⟨_, _, _, wd_677, wd_697⟩) ⟨by decide, by decide⟩ (by decide +kernel) wd_682 wd_681 rfl rfl (Nat.le_of_ble_eq_true rfl) (hw _ _ (cw_oe (by omega) hk_s)) rfl) (cl_next_Semaphore (s := s) (l := l) (by omega) hr hk_s) ⟨(Nat.le_of_ble_eq_true rfl), (Nat.le_of_ble_eq_true rfl), (Nat.le_of_ble_eq_true rfl), (Nat.le_of_ble_eq_true rfl)⟩ ?_
  show sh_cW _ _ (_, _, [va_rf ((sp_nx K L s l).map fun u => A (10 + u))]) K L _ _ _ _ _
  refine sh_ctv (show _ = Value.ref (A (10 + q18)) by rw [c1_18]; rfl) ?_
  refine sh_cp (fun w Z k => sh_astore dc_Gate_serve_21 (by decide) k) ?_
  refine sh_cp (fun w Z k => sh_aload dc_Gate_serve_23 rfl k) ?_
  refine sh_cp (fun w Z k => sh_ifnull dc_Gate_serve_25 k) ?_
  refine sh_cp (fun w Z k => sh_aload_n dc_Gate_serve_28 rfl rfl k) ?_
  refine sh_cp (fun w Z k => sh_aload dc_Gate_serve_29 rfl k) ?_
  refine sh_cp (fun w Z k => sh_aload dc_Gate_serve_31 rfl k) ?_
  refine sh_cget (10 + q18) 5 dc_Gate_serve_33 (cw_ow (by omega)) rfl (by decide) fl_Gate_27 rfl rfl rfl rfl ?_
  refine sh_ccall (fun w hw => sh_virtU (As := [.ref (A (10 + q18)), .int (K 6 q18)]) dc_Gate_serve_36 lm_Semaphore_canTake wd_699 wd_572 (Or.inl wd_571) ⟨by decide, by decide⟩ (by decide +kernel) wd_580 wd_579 rfl rfl (Nat.le_of_ble_eq_true rfl) (hw _ _ (cw_oe (by omega) hk_s)) rfl) (cl_can_Semaphore (s := s) (t := q18) (m := K 6 q18) (by omega) (by omega) ho v2_36 hk_s) ⟨(Nat.le_of_ble_eq_true rfl), (Nat.le_of_ble_eq_true rfl), (Nat.le_of_ble_eq_true rfl), (Nat.le_of_ble_eq_true rfl)⟩ ?_
  show sh_cW _ _ (_, _, [.int (sp_b (sp_can K q18 s (K 6 q18)))]) K L _ _ _ _ _
  refine sh_cp (fun w Z k => sh_if_ne (tgt := 43) dc_Gate_serve_39 (by decide) (fun _ => k) (fun z => absurd z c3_39)) ?_
  refine sh_cp (fun w Z k => sh_aload_n dc_Gate_serve_43 rfl rfl k) ?_
  refine sh_cp (fun w Z k => sh_aload dc_Gate_serve_44 rfl k) ?_
  refine sh_ccall (fun w hw => sh_virtU (As := [.ref (A (10 + q18))]) dc_Gate_serve_46 lm_Sync_dequeue wd_700 wd_701 (Or.inl wd_702) ⟨by decide, by decide⟩ (by decide +kernel) wd_707 wd_705 rfl rfl (Nat.le_of_ble_eq_true rfl) (hw _ _ (cw_oe (by omega) hk_s)) rfl) (ct_Sync_dequeue_Semaphore_1 (t := q18) (s := s) (l := l) (by omega) (by omega) hr hk_s) ⟨(Nat.le_of_ble_eq_true rfl), (Nat.le_of_ble_eq_true rfl), (Nat.le_of_ble_eq_true rfl), (Nat.le_of_ble_eq_true rfl)⟩ ?_
  show sh_cW _ _ (_, _, []) (sh_u2 (sh_u2 (sp_row K s (sp_rm l q18)) 5 q18 (-1)) 26 q18 0) L _ _ _ _ _
  refine sh_cp (fun w Z k => sh_aload_n dc_Gate_serve_49 rfl rfl k) ?_
  refine sh_cp (fun w Z k => sh_aload dc_Gate_serve_50 rfl k) ?_
  refine sh_cp (fun w Z k => sh_aload dc_Gate_serve_52 rfl k) ?_
  refine sh_cget (10 + q18) 5 dc_Gate_serve_54 (cw_ow (by omega)) rfl (by decide) fl_Gate_27 rfl rfl rfl rfl ?_
  refine sh_cti (show (sh_u2 (sh_u2 (sp_row K s (sp_rm l q18)) 5 q18 (-1)) 26 q18 0) 6 q18 = K 6 q18 from (Eq.trans (sh_u2_row (by decide) _) (Eq.trans (sh_u2_row (by decide) _) (sp_row_keep (by decide) _)))) ?_
  refine sh_cp (fun w Z k => sh_aload dc_Gate_serve_57 rfl k) ?_
  refine sh_cget (10 + q18) 9 dc_Gate_serve_59 (cw_ow (by omega)) rfl (by decide) fl_Gate_41 rfl rfl rfl rfl ?_
  refine sh_cti (show (sh_u2 (sh_u2 (sp_row K s (sp_rm l q18)) 5 q18 (-1)) 26 q18 0) 9 q18 = K 9 q18 from (Eq.trans (sh_u2_row (by decide) _) (Eq.trans (sh_u2_row (by decide) _) (sp_row_keep (by decide) _)))) ?_
  refine sh_ccall (fun w hw => sh_virtU (As := [.ref (A (10 + q18)), .int (K 6 q18), .int (K 9 q18)]) dc_Gate_serve_62 lm_Semaphore_take wd_713 wd_591 (Or.inl wd_590) ⟨by decide, by decide⟩ (by decide +kernel) wd_599 wd_598 rfl rfl (Nat.le_of_ble_eq_true rfl) (hw _ _ (cw_oe (by omega) ((congrArg cw_cl (Eq.trans (sh_u2_row (by decide) _) (Eq.trans (sh_u2_row (by decide) _) (sp_row_keep (by decide) _)))).trans hk_s))) rfl) (cl_take_Semaphore (s := s) (t := q18) (m := K 6 q18) (e := K 9 q18) (by omega) (by omega) ((congrArg cw_cl (Eq.trans (sh_u2_row (by decide) _) (Eq.trans (sh_u2_row (by decide) _) (sp_row_keep (by decide) _)))).trans hk_s)) ⟨(Nat.le_of_ble_eq_true rfl), (Nat.le_of_ble_eq_true rfl), (Nat.le_of_ble_eq_true rfl), (Nat.le_of_ble_eq_true rfl)⟩ ?_
  show sh_cW _ _ (_, _, []) (sp_tk (sh_u2 (sh_u2 (sp_row K s (sp_rm l q18)) 5 q18 (-1)) 26 q18 0) q18 s (K 6 q18) (K 9 q18)) L _ _ _ _ _
  refine sh_cp (fun w Z k => sh_aload dc_Gate_serve_65 rfl k) ?_
  refine sh_cp (fun w Z k => sh_aload dc_Gate_serve_67 rfl k) ?_
  refine sh_cget (10 + q18) 10 dc_Gate_serve_69 (cw_ow (by omega)) rfl (by decide) fl_Gate_48 rfl rfl rfl rfl ?_
  refine sh_cti (show (sp_tk (sh_u2 (sh_u2 (sp_row K s (sp_rm l q18)) 5 q18 (-1)) 26 q18 0) q18 s (K 6 q18) (K 9 q18)) 10 q18 = K 10 q18 from (Eq.trans (sp_tk_keep (by decide) _) (Eq.trans (sh_u2_row (by decide) _) (Eq.trans (sh_u2_row (by decide) _) (sp_row_keep (by decide) _))))) ?_
  refine sh_ccall (fun w hw => sh_virt (As := [.int (K 10 q18)]) dc_Gate_serve_72 lm_Worker_finish ln_Gate_51 wd_496 wd_6 rfl rfl (Nat.le_of_ble_eq_true rfl) (hw _ _ (cw_ow (by omega))) rfl) (ct_Worker_finish_1 (t := q18) (x := K 10 q18) (by omega)) ⟨(Nat.le_of_ble_eq_true rfl), (Nat.le_of_ble_eq_true rfl), (Nat.le_of_ble_eq_true rfl), (Nat.le_of_ble_eq_true rfl)⟩ ?_
  show sh_cW _ _ (_, _, [.int (K 10 q18)]) (sh_u2 (sh_u2 (sp_tk (sh_u2 (sh_u2 (sp_row K s (sp_rm l q18)) 5 q18 (-1)) 26 q18 0) q18 s (K 6 q18) (K 9 q18)) 4 q18 (K 10 q18)) 27 q18 0) L _ _ _ _ _
  refine sh_cp (fun w Z k => sh_pop dc_Gate_serve_75 rfl k) ?_
  refine sh_cp (fun w Z k => sh_aload_n dc_Gate_serve_76 rfl rfl k) ?_
  refine sh_cp (fun w Z k => sh_dload_n dc_Gate_serve_77 rfl rfl k) ?_
  refine sh_cp (fun w Z k => sh_aload dc_Gate_serve_78 rfl k) ?_
  refine sh_cget (10 + q18) 8 dc_Gate_serve_80 (cw_ow (by omega)) rfl (by decide) fl_Gate_55 rfl rfl rfl rfl ?_
  refine sh_cp (fun w Z k => sh_dsub dc_Gate_serve_83 v4_83 k) ?_
  refine sh_ccall (fun w hw => sh_virtU (As := [.double (FP.dsub p (L 8 q18))]) dc_Gate_serve_84 lm_Sync_addWaited wd_715 wd_716 (Or.inl wd_717) ⟨by decide, by decide⟩ (by decide +kernel) wd_722 wd_720 rfl rfl (Nat.le_of_ble_eq_true rfl) (hw _ _ (cw_oe (by omega) ((congrArg cw_cl (Eq.trans (sh_u2_row (by decide) _) (Eq.trans (sh_u2_row (by decide) _) (Eq.trans (sp_tk_keep (by decide) _) (Eq.trans (sh_u2_row (by decide) _) (Eq.trans (sh_u2_row (by decide) _) (sp_row_keep (by decide) _))))))).trans hk_s))) rfl) (ct_Sync_addWaited_Semaphore_1 (s := s) (x := FP.dsub p (L 8 q18)) (by omega) ((congrArg cw_cl (Eq.trans (sh_u2_row (by decide) _) (Eq.trans (sh_u2_row (by decide) _) (Eq.trans (sp_tk_keep (by decide) _) (Eq.trans (sh_u2_row (by decide) _) (Eq.trans (sh_u2_row (by decide) _) (sp_row_keep (by decide) _))))))).trans hk_s) v5_84) ⟨(Nat.le_of_ble_eq_true rfl), (Nat.le_of_ble_eq_true rfl), (Nat.le_of_ble_eq_true rfl), (Nat.le_of_ble_eq_true rfl)⟩ ?_
  show sh_cW _ _ (_, _, []) (sh_u2 (sh_u2 (sh_u2 (sp_tk (sh_u2 (sh_u2 (sp_row K s (sp_rm l q18)) 5 q18 (-1)) 26 q18 0) q18 s (K 6 q18) (K 9 q18)) 4 q18 (K 10 q18)) 27 q18 0) 21 s (((sh_u2 (sh_u2 (sp_tk (sh_u2 (sh_u2 (sp_row K s (sp_rm l q18)) 5 q18 (-1)) 26 q18 0) q18 s (K 6 q18) (K 9 q18)) 4 q18 (K 10 q18)) 27 q18 0) 21 s) + 1)) (sh_u2 L 20 s (FP.dadd (L 20 s) (FP.dsub p (L 8 q18)))) _ _ _ _ _
  refine sh_cst (show (sh_u2 (sh_u2 (sh_u2 (sp_tk (sh_u2 (sh_u2 (sp_row K s (sp_rm l q18)) 5 q18 (-1)) 26 q18 0) q18 s (K 6 q18) (K 9 q18)) 4 q18 (K 10 q18)) 27 q18 0) 21 s (((sh_u2 (sh_u2 (sp_tk (sh_u2 (sh_u2 (sp_row K s (sp_rm l q18)) 5 q18 (-1)) 26 q18 0) q18 s (K 6 q18) (K 9 q18)) 4 q18 (K 10 q18)) 27 q18 0) 21 s) + 1)) = (sh_u2 (sh_u2 (sh_u2 (sp_tk (sh_u2 (sh_u2 (sp_row K s (sp_rm l q18)) 5 q18 (-1)) 26 q18 0) q18 s (K 6 q18) (K 9 q18)) 4 q18 (K 10 q18)) 27 q18 0) 21 s ((K 21 s) + 1)) from by rw [(show (sh_u2 (sh_u2 (sp_tk (sh_u2 (sh_u2 (sp_row K s (sp_rm l q18)) 5 q18 (-1)) 26 q18 0) q18 s (K 6 q18) (K 9 q18)) 4 q18 (K 10 q18)) 27 q18 0) 21 s = K 21 s from (Eq.trans (sh_u2_row (by decide) _) (Eq.trans (sh_u2_row (by decide) _) (Eq.trans (sp_tk_keep (by decide) _) (Eq.trans (sh_u2_row (by decide) _) (Eq.trans (sh_u2_row (by decide) _) (sp_row_keep (by decide) _)))))))]) rfl ?_
  refine sh_cp (fun w Z k => sh_iinc (v := nI (i + 1)) dc_Gate_serve_87 rfl (sh_nadd rfl (rfl : (1 : Int32) = nI 1)) (by decide) k) ?_
  refine sh_cp (fun w Z k => sh_goto_ (tgt := 11) dc_Gate_serve_90 (by decide) k) ?_
  refine sh_clv [2, 3, 4, 0] rfl ?_
  exact k9
theorem cb_Gate_serve_Latchp_0_1 {A : Nat → Nat} {K K9 : sh_II} {L L9 : sh_DD} {v9 : Option Value ⊕ Nat} {s : Nat} {p : UInt64} (hs : s < 8) (hk_s : cw_cl (K 12 s) = 6) (k9 : sh_cW A md_Gate_serve (11, [(0, .ref (A (20 + s))), (1, .double p), (3, .int (K 19 s)), (4, .int 0)], []) K L 0 0 v9 K9 L9) : sh_cW A md_Gate_serve (0, [(0, .ref (A (20 + s))), (1, .double p)], []) K L 0 0 v9 K9 L9 := by
  refine sh_cp (fun w Z k => sh_aload_n dc_Gate_serve_0 rfl rfl k) ?_
  refine sh_cget (20 + s) 1 dc_Gate_serve_1 (cw_oa (by omega) hk_s) rfl (by decide) fl_Gate_7 rfl rfl rfl rfl ?_
  refine sh_ccall (fun w hw => sh_virt (As := []) dc_Gate_serve_4 lm_Waiters_size ln_Gate_19 wd_552 wd_12 rfl rfl (Nat.le_of_ble_eq_true rfl) (hw _ _ (cw_ot (by omega) (cw_nz hk_s (by decide)))) rfl) (ct_Waiters_size_1 (s := s) (by omega) (cw_nz hk_s (by decide))) ⟨(Nat.le_of_ble_eq_true rfl), (Nat.le_of_ble_eq_true rfl), (Nat.le_of_ble_eq_true rfl), (Nat.le_of_ble_eq_true rfl)⟩ ?_
  show sh_cW _ _ (_, _, [.int (K 19 s)]) K L _ _ _ _ _
  refine sh_cp (fun w Z k => sh_istore_n dc_Gate_serve_7 rfl (by decide) k) ?_
  refine sh_cp (fun w Z k => sh_iconst (v := 0) dc_Gate_serve_8 (by decide) k) ?_
  refine sh_cp (fun w Z k => sh_istore dc_Gate_serve_9 (by decide) k) ?_
  refine sh_clv [2, 3, 1, 0] rfl ?_
  exact k9
theorem cb_Gate_serve_Latche_11_1 {A : Nat → Nat} {K : sh_II} {L : sh_DD} {s : Nat} {p : UInt64} {z : Nat} {i : Nat} (hs : s < 8) (hx : (nI z) ≤ (nI i)) (hk_s : cw_cl (K 12 s) = 6) : sh_cW A md_Gate_serve (11, [(0, .ref (A (20 + s))), (1, .double p), (3, .int (nI z)), (4, .int (nI i))], []) K L 0 0 (.inl none) K L := by
  refine sh_cp (fun w Z k => sh_iload dc_Gate_serve_11 rfl k) ?_
  refine sh_cp (fun w Z k => sh_iload_n dc_Gate_serve_13 rfl rfl k) ?_
  refine sh_cp (fun w Z k => sh_icmp_ge (tgt := 93) dc_Gate_serve_14 (by decide) (fun _ => k) (fun z => absurd hx z)) ?_
  exact sh_ce (fun w => sh_return dc_Gate_serve_93 rfl (by decide) (by decide))
theorem cb_Gate_serve_Latch_11_1 {A : Nat → Nat} {K : sh_II} {L : sh_DD} {s : Nat} {p : UInt64} {z : Nat} {i : Nat} {l : List Nat} (hs : s < 8) (hr : cw_row K s l) (ho : cw_okr K) (hx : ¬ (nI z) ≤ (nI i)) (hk_s : cw_cl (K 12 s) = 6) (c0_18 : (sp_nx K L s l) = none) : sh_cW A md_Gate_serve (11, [(0, .ref (A (20 + s))), (1, .double p), (3, .int (nI z)), (4, .int (nI i))], []) K L 0 0 (.inl none) K L := by
  refine sh_cp (fun w Z k => sh_iload dc_Gate_serve_11 rfl k) ?_
  refine sh_cp (fun w Z k => sh_iload_n dc_Gate_serve_13 rfl rfl k) ?_
  refine sh_cp (fun w Z k => sh_icmp_ge (tgt := 93) dc_Gate_serve_14 (by decide) (fun z => absurd z hx) (fun _ => k)) ?_
  refine sh_cp (fun w Z k => sh_aload_n dc_Gate_serve_17 rfl rfl k) ?_
  refine sh_ccall (fun w hw => sh_virtU (As := []) dc_Gate_serve_18 lm_Gate_next wd_676 wd_678 (Or.inr ⟨_, _, _, wd_677, wd_697⟩) ⟨by decide, by decide⟩ (by decide +kernel) wd_677 wd_679 rfl rfl (Nat.le_of_ble_eq_true rfl) (hw _ _ (cw_oa (by omega) hk_s)) rfl) (cl_next_Latch (s := s) (l := l) (by omega) hr hk_s) ⟨(Nat.le_of_ble_eq_true rfl), (Nat.le_of_ble_eq_true rfl), (Nat.le_of_ble_eq_true rfl), (Nat.le_of_ble_eq_true rfl)⟩ ?_
  show sh_cW _ _ (_, _, [va_rf ((sp_nx K L s l).map fun u => A (10 + u))]) K L _ _ _ _ _
  refine sh_ctv (show _ = Value.null by rw [c0_18]; rfl) ?_
  refine sh_cp (fun w Z k => sh_astoreN dc_Gate_serve_21 (by decide) k) ?_
  refine sh_cp (fun w Z k => sh_aloadq (x := none) dc_Gate_serve_23 rfl k) ?_
  show sh_cW _ _ (_, _, .null :: _) _ _ _ _ _ _ _
  refine sh_cp (fun w Z k => sh_ifnullN (tgt := 42) dc_Gate_serve_25 (by decide) k) ?_
  exact sh_ce (fun w => sh_return dc_Gate_serve_42 rfl (by decide) (by decide))
theorem cb_Gate_serve_Latch_11_2 {A : Nat → Nat} {K : sh_II} {L : sh_DD} {s : Nat} {p : UInt64} {z : Nat} {i : Nat} {l : List Nat} {q18 : Nat} (hs : s < 8) (hr : cw_row K s l) (ho : cw_okr K) (hx : ¬ (nI z) ≤ (nI i)) (hk_s : cw_cl (K 12 s) = 6) (hq18 : q18 < 6) (c1_18 : (sp_nx K L s l) = some q18) (v2_36 : (K 6 q18) = 0 ∨ (K 6 q18) = 1) (c3_39 : (sp_b (sp_can K q18 s (K 6 q18))) = 0) : sh_cW A md_Gate_serve (11, [(0, .ref (A (20 + s))), (1, .double p), (3, .int (nI z)), (4, .int (nI i))], []) K L 0 0 (.inl none) K L := by
  refine sh_cp (fun w Z k => sh_iload dc_Gate_serve_11 rfl k) ?_
  refine sh_cp (fun w Z k => sh_iload_n dc_Gate_serve_13 rfl rfl k) ?_
  refine sh_cp (fun w Z k => sh_icmp_ge (tgt := 93) dc_Gate_serve_14 (by decide) (fun z => absurd z hx) (fun _ => k)) ?_
  refine sh_cp (fun w Z k => sh_aload_n dc_Gate_serve_17 rfl rfl k) ?_
  refine sh_ccall (fun w hw => sh_virtU (As := []) dc_Gate_serve_18 lm_Gate_next wd_676 wd_678 (Or.inr ⟨_, _, _, wd_677, wd_697⟩) ⟨by decide, by decide⟩ (by decide +kernel) wd_677 wd_679 rfl rfl (Nat.le_of_ble_eq_true rfl) (hw _ _ (cw_oa (by omega) hk_s)) rfl) (cl_next_Latch (s := s) (l := l) (by omega) hr hk_s) ⟨(Nat.le_of_ble_eq_true rfl), (Nat.le_of_ble_eq_true rfl), (Nat.le_of_ble_eq_true rfl), (Nat.le_of_ble_eq_true rfl)⟩ ?_
  show sh_cW _ _ (_, _, [va_rf ((sp_nx K L s l).map fun u => A (10 + u))]) K L _ _ _ _ _
  refine sh_ctv (show _ = Value.ref (A (10 + q18)) by rw [c1_18]; rfl) ?_
  refine sh_cp (fun w Z k => sh_astore dc_Gate_serve_21 (by decide) k) ?_
  refine sh_cp (fun w Z k => sh_aload dc_Gate_serve_23 rfl k) ?_
  refine sh_cp (fun w Z k => sh_ifnull dc_Gate_serve_25 k) ?_
  refine sh_cp (fun w Z k => sh_aload_n dc_Gate_serve_28 rfl rfl k) ?_
  refine sh_cp (fun w Z k => sh_aload dc_Gate_serve_29 rfl k) ?_
  refine sh_cp (fun w Z k => sh_aload dc_Gate_serve_31 rfl k) ?_
  refine sh_cget (10 + q18) 5 dc_Gate_serve_33 (cw_ow (by omega)) rfl (by decide) fl_Gate_27 rfl rfl rfl rfl ?_
  refine sh_ccall (fun w hw => sh_virtU (As := [.ref (A (10 + q18)), .int (K 6 q18)]) dc_Gate_serve_36 lm_Latch_canTake wd_699 wd_572 (Or.inl wd_571) ⟨by decide, by decide⟩ (by decide +kernel) wd_574 wd_573 rfl rfl (Nat.le_of_ble_eq_true rfl) (hw _ _ (cw_oa (by omega) hk_s)) rfl) (cl_can_Latch (s := s) (t := q18) (m := K 6 q18) (by omega) (by omega) ho v2_36 hk_s) ⟨(Nat.le_of_ble_eq_true rfl), (Nat.le_of_ble_eq_true rfl), (Nat.le_of_ble_eq_true rfl), (Nat.le_of_ble_eq_true rfl)⟩ ?_
  show sh_cW _ _ (_, _, [.int (sp_b (sp_can K q18 s (K 6 q18)))]) K L _ _ _ _ _
  refine sh_cp (fun w Z k => sh_if_ne (tgt := 43) dc_Gate_serve_39 (by decide) (fun z => absurd c3_39 z) (fun _ => k)) ?_
  exact sh_ce (fun w => sh_return dc_Gate_serve_42 rfl (by decide) (by decide))
theorem cb_Gate_serve_Latch_11_3 {A : Nat → Nat} {K K9 : sh_II} {L L9 : sh_DD} {v9 : Option Value ⊕ Nat} {s : Nat} {p : UInt64} {z : Nat} {i : Nat} {l : List Nat} {q18 : Nat} (hs : s < 8) (hr : cw_row K s l) (ho : cw_okr K) (hx : ¬ (nI z) ≤ (nI i)) (hk_s : cw_cl (K 12 s) = 6) (hq18 : q18 < 6) (c1_18 : (sp_nx K L s l) = some q18) (v2_36 : (K 6 q18) = 0 ∨ (K 6 q18) = 1) (c3_39 : ¬ (sp_b (sp_can K q18 s (K 6 q18))) = 0) (v4_83 : vf_n64 (FP.dsub p (L 8 q18))) (v5_84 : vf_n64 (FP.dadd (L 20 s) (FP.dsub p (L 8 q18)))) (k9 : sh_cW A md_Gate_serve (11, [(0, .ref (A (20 + s))), (1, .double p), (3, .int (nI z)), (4, .int (nI (i + 1)))], []) (sh_u2 (sh_u2 (sh_u2 (sp_tk (sh_u2 (sh_u2 (sp_row K s (sp_rm l q18)) 5 q18 (-1)) 26 q18 0) q18 s (K 6 q18) (K 9 q18)) 4 q18 (K 10 q18)) 27 q18 0) 21 s ((K 21 s) + 1)) (sh_u2 L 20 s (FP.dadd (L 20 s) (FP.dsub p (L 8 q18)))) 0 0 v9 K9 L9) : sh_cW A md_Gate_serve (11, [(0, .ref (A (20 + s))), (1, .double p), (3, .int (nI z)), (4, .int (nI i))], []) K L 0 0 v9 K9 L9 := by
  refine sh_cp (fun w Z k => sh_iload dc_Gate_serve_11 rfl k) ?_
  refine sh_cp (fun w Z k => sh_iload_n dc_Gate_serve_13 rfl rfl k) ?_
  refine sh_cp (fun w Z k => sh_icmp_ge (tgt := 93) dc_Gate_serve_14 (by decide) (fun z => absurd z hx) (fun _ => k)) ?_
  refine sh_cp (fun w Z k => sh_aload_n dc_Gate_serve_17 rfl rfl k) ?_
  refine sh_ccall (fun w hw => sh_virtU (As := []) dc_Gate_serve_18 lm_Gate_next wd_676 wd_678 (Or.inr ⟨_, _, _, wd_677, wd_697⟩) ⟨by decide, by decide⟩ (by decide +kernel) wd_677 wd_679 rfl rfl (Nat.le_of_ble_eq_true rfl) (hw _ _ (cw_oa (by omega) hk_s)) rfl) (cl_next_Latch (s := s) (l := l) (by omega) hr hk_s) ⟨(Nat.le_of_ble_eq_true rfl), (Nat.le_of_ble_eq_true rfl), (Nat.le_of_ble_eq_true rfl), (Nat.le_of_ble_eq_true rfl)⟩ ?_
  show sh_cW _ _ (_, _, [va_rf ((sp_nx K L s l).map fun u => A (10 + u))]) K L _ _ _ _ _
  refine sh_ctv (show _ = Value.ref (A (10 + q18)) by rw [c1_18]; rfl) ?_
  refine sh_cp (fun w Z k => sh_astore dc_Gate_serve_21 (by decide) k) ?_
  refine sh_cp (fun w Z k => sh_aload dc_Gate_serve_23 rfl k) ?_
  refine sh_cp (fun w Z k => sh_ifnull dc_Gate_serve_25 k) ?_
  refine sh_cp (fun w Z k => sh_aload_n dc_Gate_serve_28 rfl rfl k) ?_
  refine sh_cp (fun w Z k => sh_aload dc_Gate_serve_29 rfl k) ?_
  refine sh_cp (fun w Z k => sh_aload dc_Gate_serve_31 rfl k) ?_
  refine sh_cget (10 + q18) 5 dc_Gate_serve_33 (cw_ow (by omega)) rfl (by decide) fl_Gate_27 rfl rfl rfl rfl ?_
  refine sh_ccall (fun w hw => sh_virtU (As := [.ref (A (10 + q18)), .int (K 6 q18)]) dc_Gate_serve_36 lm_Latch_canTake wd_699 wd_572 (Or.inl wd_571) ⟨by decide, by decide⟩ (by decide +kernel) wd_574 wd_573 rfl rfl (Nat.le_of_ble_eq_true rfl) (hw _ _ (cw_oa (by omega) hk_s)) rfl) (cl_can_Latch (s := s) (t := q18) (m := K 6 q18) (by omega) (by omega) ho v2_36 hk_s) ⟨(Nat.le_of_ble_eq_true rfl), (Nat.le_of_ble_eq_true rfl), (Nat.le_of_ble_eq_true rfl), (Nat.le_of_ble_eq_true rfl)⟩ ?_
  show sh_cW _ _ (_, _, [.int (sp_b (sp_can K q18 s (K 6 q18)))]) K L _ _ _ _ _
  refine sh_cp (fun w Z k => sh_if_ne (tgt := 43) dc_Gate_serve_39 (by decide) (fun _ => k) (fun z => absurd z c3_39)) ?_
  refine sh_cp (fun w Z k => sh_aload_n dc_Gate_serve_43 rfl rfl k) ?_
  refine sh_cp (fun w Z k => sh_aload dc_Gate_serve_44 rfl k) ?_
  refine sh_ccall (fun w hw => sh_virtU (As := [.ref (A (10 + q18))]) dc_Gate_serve_46 lm_Sync_dequeue wd_700 wd_701 (Or.inl wd_702) ⟨by decide, by decide⟩ (by decide +kernel) wd_707 wd_703 rfl rfl (Nat.le_of_ble_eq_true rfl) (hw _ _ (cw_oa (by omega) hk_s)) rfl) (ct_Sync_dequeue_Latch_1 (t := q18) (s := s) (l := l) (by omega) (by omega) hr hk_s) ⟨(Nat.le_of_ble_eq_true rfl), (Nat.le_of_ble_eq_true rfl), (Nat.le_of_ble_eq_true rfl), (Nat.le_of_ble_eq_true rfl)⟩ ?_
  show sh_cW _ _ (_, _, []) (sh_u2 (sh_u2 (sp_row K s (sp_rm l q18)) 5 q18 (-1)) 26 q18 0) L _ _ _ _ _
  refine sh_cp (fun w Z k => sh_aload_n dc_Gate_serve_49 rfl rfl k) ?_
  refine sh_cp (fun w Z k => sh_aload dc_Gate_serve_50 rfl k) ?_
  refine sh_cp (fun w Z k => sh_aload dc_Gate_serve_52 rfl k) ?_
  refine sh_cget (10 + q18) 5 dc_Gate_serve_54 (cw_ow (by omega)) rfl (by decide) fl_Gate_27 rfl rfl rfl rfl ?_
  refine sh_cti (show (sh_u2 (sh_u2 (sp_row K s (sp_rm l q18)) 5 q18 (-1)) 26 q18 0) 6 q18 = K 6 q18 from (Eq.trans (sh_u2_row (by decide) _) (Eq.trans (sh_u2_row (by decide) _) (sp_row_keep (by decide) _)))) ?_
  refine sh_cp (fun w Z k => sh_aload dc_Gate_serve_57 rfl k) ?_
  refine sh_cget (10 + q18) 9 dc_Gate_serve_59 (cw_ow (by omega)) rfl (by decide) fl_Gate_41 rfl rfl rfl rfl ?_
  refine sh_cti (show (sh_u2 (sh_u2 (sp_row K s (sp_rm l q18)) 5 q18 (-1)) 26 q18 0) 9 q18 = K 9 q18 from (Eq.trans (sh_u2_row (by decide) _) (Eq.trans (sh_u2_row (by decide) _) (sp_row_keep (by decide) _)))) ?_
  refine sh_ccall (fun w hw => sh_virtU (As := [.ref (A (10 + q18)), .int (K 6 q18), .int (K 9 q18)]) dc_Gate_serve_62 lm_Latch_take wd_713 wd_591 (Or.inl wd_590) ⟨by decide, by decide⟩ (by decide +kernel) wd_593 wd_592 rfl rfl (Nat.le_of_ble_eq_true rfl) (hw _ _ (cw_oa (by omega) ((congrArg cw_cl (Eq.trans (sh_u2_row (by decide) _) (Eq.trans (sh_u2_row (by decide) _) (sp_row_keep (by decide) _)))).trans hk_s))) rfl) (cl_take_Latch (s := s) (t := q18) (m := K 6 q18) (e := K 9 q18) (by omega) (by omega) ((congrArg cw_cl (Eq.trans (sh_u2_row (by decide) _) (Eq.trans (sh_u2_row (by decide) _) (sp_row_keep (by decide) _)))).trans hk_s)) ⟨(Nat.le_of_ble_eq_true rfl), (Nat.le_of_ble_eq_true rfl), (Nat.le_of_ble_eq_true rfl), (Nat.le_of_ble_eq_true rfl)⟩ ?_
  show sh_cW _ _ (_, _, []) (sp_tk (sh_u2 (sh_u2 (sp_row K s (sp_rm l q18)) 5 q18 (-1)) 26 q18 0) q18 s (K 6 q18) (K 9 q18)) L _ _ _ _ _
  refine sh_cp (fun w Z k => sh_aload dc_Gate_serve_65 rfl k) ?_
  refine sh_cp (fun w Z k => sh_aload dc_Gate_serve_67 rfl k) ?_
  refine sh_cget (10 + q18) 10 dc_Gate_serve_69 (cw_ow (by omega)) rfl (by decide) fl_Gate_48 rfl rfl rfl rfl ?_
  refine sh_cti (show (sp_tk (sh_u2 (sh_u2 (sp_row K s (sp_rm l q18)) 5 q18 (-1)) 26 q18 0) q18 s (K 6 q18) (K 9 q18)) 10 q18 = K 10 q18 from (Eq.trans (sp_tk_keep (by decide) _) (Eq.trans (sh_u2_row (by decide) _) (Eq.trans (sh_u2_row (by decide) _) (sp_row_keep (by decide) _))))) ?_
  refine sh_ccall (fun w hw => sh_virt (As := [.int (K 10 q18)]) dc_Gate_serve_72 lm_Worker_finish ln_Gate_51 wd_496 wd_6 rfl rfl (Nat.le_of_ble_eq_true rfl) (hw _ _ (cw_ow (by omega))) rfl) (ct_Worker_finish_1 (t := q18) (x := K 10 q18) (by omega)) ⟨(Nat.le_of_ble_eq_true rfl), (Nat.le_of_ble_eq_true rfl), (Nat.le_of_ble_eq_true rfl), (Nat.le_of_ble_eq_true rfl)⟩ ?_
  show sh_cW _ _ (_, _, [.int (K 10 q18)]) (sh_u2 (sh_u2 (sp_tk (sh_u2 (sh_u2 (sp_row K s (sp_rm l q18)) 5 q18 (-1)) 26 q18 0) q18 s (K 6 q18) (K 9 q18)) 4 q18 (K 10 q18)) 27 q18 0) L _ _ _ _ _
  refine sh_cp (fun w Z k => sh_pop dc_Gate_serve_75 rfl k) ?_
  refine sh_cp (fun w Z k => sh_aload_n dc_Gate_serve_76 rfl rfl k) ?_
  refine sh_cp (fun w Z k => sh_dload_n dc_Gate_serve_77 rfl rfl k) ?_
  refine sh_cp (fun w Z k => sh_aload dc_Gate_serve_78 rfl k) ?_
  refine sh_cget (10 + q18) 8 dc_Gate_serve_80 (cw_ow (by omega)) rfl (by decide) fl_Gate_55 rfl rfl rfl rfl ?_
  refine sh_cp (fun w Z k => sh_dsub dc_Gate_serve_83 v4_83 k) ?_
  refine sh_ccall (fun w hw => sh_virtU (As := [.double (FP.dsub p (L 8 q18))]) dc_Gate_serve_84 lm_Sync_addWaited wd_715 wd_716 (Or.inl wd_717) ⟨by decide, by decide⟩ (by decide +kernel) wd_722 wd_718 rfl rfl (Nat.le_of_ble_eq_true rfl) (hw _ _ (cw_oa (by omega) ((congrArg cw_cl (Eq.trans (sh_u2_row (by decide) _) (Eq.trans (sh_u2_row (by decide) _) (Eq.trans (sp_tk_keep (by decide) _) (Eq.trans (sh_u2_row (by decide) _) (Eq.trans (sh_u2_row (by decide) _) (sp_row_keep (by decide) _))))))).trans hk_s))) rfl) (ct_Sync_addWaited_Latch_1 (s := s) (x := FP.dsub p (L 8 q18)) (by omega) ((congrArg cw_cl (Eq.trans (sh_u2_row (by decide) _) (Eq.trans (sh_u2_row (by decide) _) (Eq.trans (sp_tk_keep (by decide) _) (Eq.trans (sh_u2_row (by decide) _) (Eq.trans (sh_u2_row (by decide) _) (sp_row_keep (by decide) _))))))).trans hk_s) v5_84) ⟨(Nat.le_of_ble_eq_true rfl), (Nat.le_of_ble_eq_true rfl), (Nat.le_of_ble_eq_true rfl), (Nat.le_of_ble_eq_true rfl)⟩ ?_
  show sh_cW _ _ (_, _, []) (sh_u2 (sh_u2 (sh_u2 (sp_tk (sh_u2 (sh_u2 (sp_row K s (sp_rm l q18)) 5 q18 (-1)) 26 q18 0) q18 s (K 6 q18) (K 9 q18)) 4 q18 (K 10 q18)) 27 q18 0) 21 s (((sh_u2 (sh_u2 (sp_tk (sh_u2 (sh_u2 (sp_row K s (sp_rm l q18)) 5 q18 (-1)) 26 q18 0) q18 s (K 6 q18) (K 9 q18)) 4 q18 (K 10 q18)) 27 q18 0) 21 s) + 1)) (sh_u2 L 20 s (FP.dadd (L 20 s) (FP.dsub p (L 8 q18)))) _ _ _ _ _
  refine sh_cst (show (sh_u2 (sh_u2 (sh_u2 (sp_tk (sh_u2 (sh_u2 (sp_row K s (sp_rm l q18)) 5 q18 (-1)) 26 q18 0) q18 s (K 6 q18) (K 9 q18)) 4 q18 (K 10 q18)) 27 q18 0) 21 s (((sh_u2 (sh_u2 (sp_tk (sh_u2 (sh_u2 (sp_row K s (sp_rm l q18)) 5 q18 (-1)) 26 q18 0) q18 s (K 6 q18) (K 9 q18)) 4 q18 (K 10 q18)) 27 q18 0) 21 s) + 1)) = (sh_u2 (sh_u2 (sh_u2 (sp_tk (sh_u2 (sh_u2 (sp_row K s (sp_rm l q18)) 5 q18 (-1)) 26 q18 0) q18 s (K 6 q18) (K 9 q18)) 4 q18 (K 10 q18)) 27 q18 0) 21 s ((K 21 s) + 1)) from by rw [(show (sh_u2 (sh_u2 (sp_tk (sh_u2 (sh_u2 (sp_row K s (sp_rm l q18)) 5 q18 (-1)) 26 q18 0) q18 s (K 6 q18) (K 9 q18)) 4 q18 (K 10 q18)) 27 q18 0) 21 s = K 21 s from (Eq.trans (sh_u2_row (by decide) _) (Eq.trans (sh_u2_row (by decide) _) (Eq.trans (sp_tk_keep (by decide) _) (Eq.trans (sh_u2_row (by decide) _) (Eq.trans (sh_u2_row (by decide) _) (sp_row_keep (by decide) _)))))))]) rfl ?_
  refine sh_cp (fun w Z k => sh_iinc (v := nI (i + 1)) dc_Gate_serve_87 rfl (sh_nadd rfl (rfl : (1 : Int32) = nI 1)) (by decide) k) ?_
  refine sh_cp (fun w Z k => sh_goto_ (tgt := 11) dc_Gate_serve_90 (by decide) k) ?_
  refine sh_clv [2, 3, 4, 0] rfl ?_
  exact k9
theorem cb_Gate_serve_Sharedp_0_1 {A : Nat → Nat} {K K9 : sh_II} {L L9 : sh_DD} {v9 : Option Value ⊕ Nat} {s : Nat} {p : UInt64} (hs : s < 8) (hk_s : cw_cl (K 12 s) = 7) (k9 : sh_cW A md_Gate_serve (11, [(0, .ref (A (20 + s))), (1, .double p), (3, .int (K 19 s)), (4, .int 0)], []) K L 0 0 v9 K9 L9) : sh_cW A md_Gate_serve (0, [(0, .ref (A (20 + s))), (1, .double p)], []) K L 0 0 v9 K9 L9 := by
  refine sh_cp (fun w Z k => sh_aload_n dc_Gate_serve_0 rfl rfl k) ?_
  refine sh_cget (20 + s) 1 dc_Gate_serve_1 (cw_oh (by omega) hk_s) rfl (by decide) fl_Gate_7 rfl rfl rfl rfl ?_
  refine sh_ccall (fun w hw => sh_virt (As := []) dc_Gate_serve_4 lm_Waiters_size ln_Gate_19 wd_552 wd_12 rfl rfl (Nat.le_of_ble_eq_true rfl) (hw _ _ (cw_ot (by omega) (cw_nz hk_s (by decide)))) rfl) (ct_Waiters_size_1 (s := s) (by omega) (cw_nz hk_s (by decide))) ⟨(Nat.le_of_ble_eq_true rfl), (Nat.le_of_ble_eq_true rfl), (Nat.le_of_ble_eq_true rfl), (Nat.le_of_ble_eq_true rfl)⟩ ?_
  show sh_cW _ _ (_, _, [.int (K 19 s)]) K L _ _ _ _ _
  refine sh_cp (fun w Z k => sh_istore_n dc_Gate_serve_7 rfl (by decide) k) ?_
  refine sh_cp (fun w Z k => sh_iconst (v := 0) dc_Gate_serve_8 (by decide) k) ?_
  refine sh_cp (fun w Z k => sh_istore dc_Gate_serve_9 (by decide) k) ?_
  refine sh_clv [2, 3, 1, 0] rfl ?_
  exact k9
theorem cb_Gate_serve_Sharede_11_1 {A : Nat → Nat} {K : sh_II} {L : sh_DD} {s : Nat} {p : UInt64} {z : Nat} {i : Nat} (hs : s < 8) (hx : (nI z) ≤ (nI i)) (hk_s : cw_cl (K 12 s) = 7) : sh_cW A md_Gate_serve (11, [(0, .ref (A (20 + s))), (1, .double p), (3, .int (nI z)), (4, .int (nI i))], []) K L 0 0 (.inl none) K L := by
  refine sh_cp (fun w Z k => sh_iload dc_Gate_serve_11 rfl k) ?_
  refine sh_cp (fun w Z k => sh_iload_n dc_Gate_serve_13 rfl rfl k) ?_
  refine sh_cp (fun w Z k => sh_icmp_ge (tgt := 93) dc_Gate_serve_14 (by decide) (fun _ => k) (fun z => absurd hx z)) ?_
  exact sh_ce (fun w => sh_return dc_Gate_serve_93 rfl (by decide) (by decide))
theorem cb_Gate_serve_Shared_11_1 {A : Nat → Nat} {K : sh_II} {L : sh_DD} {s : Nat} {p : UInt64} {z : Nat} {i : Nat} {l : List Nat} (hs : s < 8) (hr : cw_row K s l) (ho : cw_okr K) (hx : ¬ (nI z) ≤ (nI i)) (hk_s : cw_cl (K 12 s) = 7) (c0_18 : (sp_nx K L s l) = none) : sh_cW A md_Gate_serve (11, [(0, .ref (A (20 + s))), (1, .double p), (3, .int (nI z)), (4, .int (nI i))], []) K L 0 0 (.inl none) K L := by
  refine sh_cp (fun w Z k => sh_iload dc_Gate_serve_11 rfl k) ?_
  refine sh_cp (fun w Z k => sh_iload_n dc_Gate_serve_13 rfl rfl k) ?_
  refine sh_cp (fun w Z k => sh_icmp_ge (tgt := 93) dc_Gate_serve_14 (by decide) (fun z => absurd z hx) (fun _ => k)) ?_
  refine sh_cp (fun w Z k => sh_aload_n dc_Gate_serve_17 rfl rfl k) ?_
  refine sh_ccall (fun w hw => sh_virtU (As := []) dc_Gate_serve_18 lm_Shared_next wd_676 wd_678 (Or.inr ⟨_, _, _, wd_677, wd_697⟩) ⟨by decide, by decide⟩ (by decide +kernel) wd_694 wd_693 rfl rfl (Nat.le_of_ble_eq_true rfl) (hw _ _ (cw_oh (by omega) hk_s)) rfl) (cl_next_Shared (s := s) (l := l) (by omega) hr hk_s) ⟨(Nat.le_of_ble_eq_true rfl), (Nat.le_of_ble_eq_true rfl), (Nat.le_of_ble_eq_true rfl), (Nat.le_of_ble_eq_true rfl)⟩ ?_
  show sh_cW _ _ (_, _, [va_rf ((sp_nx K L s l).map fun u => A (10 + u))]) K L _ _ _ _ _
  refine sh_ctv (show _ = Value.null by rw [c0_18]; rfl) ?_
  refine sh_cp (fun w Z k => sh_astoreN dc_Gate_serve_21 (by decide) k) ?_
  refine sh_cp (fun w Z k => sh_aloadq (x := none) dc_Gate_serve_23 rfl k) ?_
  show sh_cW _ _ (_, _, .null :: _) _ _ _ _ _ _ _
  refine sh_cp (fun w Z k => sh_ifnullN (tgt := 42) dc_Gate_serve_25 (by decide) k) ?_
  exact sh_ce (fun w => sh_return dc_Gate_serve_42 rfl (by decide) (by decide))
theorem cb_Gate_serve_Shared_11_2 {A : Nat → Nat} {K : sh_II} {L : sh_DD} {s : Nat} {p : UInt64} {z : Nat} {i : Nat} {l : List Nat} {q18 : Nat} (hs : s < 8) (hr : cw_row K s l) (ho : cw_okr K) (hx : ¬ (nI z) ≤ (nI i)) (hk_s : cw_cl (K 12 s) = 7) (hq18 : q18 < 6) (c1_18 : (sp_nx K L s l) = some q18) (v2_36 : (K 6 q18) = 0 ∨ (K 6 q18) = 1) (c3_39 : (sp_b (sp_can K q18 s (K 6 q18))) = 0) : sh_cW A md_Gate_serve (11, [(0, .ref (A (20 + s))), (1, .double p), (3, .int (nI z)), (4, .int (nI i))], []) K L 0 0 (.inl none) K L := by
  refine sh_cp (fun w Z k => sh_iload dc_Gate_serve_11 rfl k) ?_
  refine sh_cp (fun w Z k => sh_iload_n dc_Gate_serve_13 rfl rfl k) ?_
  refine sh_cp (fun w Z k => sh_icmp_ge (tgt := 93) dc_Gate_serve_14 (by decide) (fun z => absurd z hx) (fun _ => k)) ?_
  refine sh_cp (fun w Z k => sh_aload_n dc_Gate_serve_17 rfl rfl k) ?_
  refine sh_ccall (fun w hw => sh_virtU (As := []) dc_Gate_serve_18 lm_Shared_next wd_676 wd_678 (Or.inr ⟨_, _, _, wd_677, wd_697⟩) ⟨by decide, by decide⟩ (by decide +kernel) wd_694 wd_693 rfl rfl (Nat.le_of_ble_eq_true rfl) (hw _ _ (cw_oh (by omega) hk_s)) rfl) (cl_next_Shared (s := s) (l := l) (by omega) hr hk_s) ⟨(Nat.le_of_ble_eq_true rfl), (Nat.le_of_ble_eq_true rfl), (Nat.le_of_ble_eq_true rfl), (Nat.le_of_ble_eq_true rfl)⟩ ?_
  show sh_cW _ _ (_, _, [va_rf ((sp_nx K L s l).map fun u => A (10 + u))]) K L _ _ _ _ _
  refine sh_ctv (show _ = Value.ref (A (10 + q18)) by rw [c1_18]; rfl) ?_
  refine sh_cp (fun w Z k => sh_astore dc_Gate_serve_21 (by decide) k) ?_
  refine sh_cp (fun w Z k => sh_aload dc_Gate_serve_23 rfl k) ?_
  refine sh_cp (fun w Z k => sh_ifnull dc_Gate_serve_25 k) ?_
  refine sh_cp (fun w Z k => sh_aload_n dc_Gate_serve_28 rfl rfl k) ?_
  refine sh_cp (fun w Z k => sh_aload dc_Gate_serve_29 rfl k) ?_
  refine sh_cp (fun w Z k => sh_aload dc_Gate_serve_31 rfl k) ?_
  refine sh_cget (10 + q18) 5 dc_Gate_serve_33 (cw_ow (by omega)) rfl (by decide) fl_Gate_27 rfl rfl rfl rfl ?_
  refine sh_ccall (fun w hw => sh_virtU (As := [.ref (A (10 + q18)), .int (K 6 q18)]) dc_Gate_serve_36 lm_Shared_canTake wd_699 wd_572 (Or.inl wd_571) ⟨by decide, by decide⟩ (by decide +kernel) wd_583 wd_582 rfl rfl (Nat.le_of_ble_eq_true rfl) (hw _ _ (cw_oh (by omega) hk_s)) rfl) (cl_can_Shared (s := s) (t := q18) (m := K 6 q18) (by omega) (by omega) ho v2_36 hk_s) ⟨(Nat.le_of_ble_eq_true rfl), (Nat.le_of_ble_eq_true rfl), (Nat.le_of_ble_eq_true rfl), (Nat.le_of_ble_eq_true rfl)⟩ ?_
  show sh_cW _ _ (_, _, [.int (sp_b (sp_can K q18 s (K 6 q18)))]) K L _ _ _ _ _
  refine sh_cp (fun w Z k => sh_if_ne (tgt := 43) dc_Gate_serve_39 (by decide) (fun z => absurd c3_39 z) (fun _ => k)) ?_
  exact sh_ce (fun w => sh_return dc_Gate_serve_42 rfl (by decide) (by decide))
theorem cb_Gate_serve_Shared_11_3 {A : Nat → Nat} {K K9 : sh_II} {L L9 : sh_DD} {v9 : Option Value ⊕ Nat} {s : Nat} {p : UInt64} {z : Nat} {i : Nat} {l : List Nat} {q18 : Nat} (hs : s < 8) (hr : cw_row K s l) (ho : cw_okr K) (hx : ¬ (nI z) ≤ (nI i)) (hk_s : cw_cl (K 12 s) = 7) (hq18 : q18 < 6) (c1_18 : (sp_nx K L s l) = some q18) (v2_36 : (K 6 q18) = 0 ∨ (K 6 q18) = 1) (c3_39 : ¬ (sp_b (sp_can K q18 s (K 6 q18))) = 0) (v4_83 : vf_n64 (FP.dsub p (L 8 q18))) (v5_84 : vf_n64 (FP.dadd (L 20 s) (FP.dsub p (L 8 q18)))) (k9 : sh_cW A md_Gate_serve (11, [(0, .ref (A (20 + s))), (1, .double p), (3, .int (nI z)), (4, .int (nI (i + 1)))], []) (sh_u2 (sh_u2 (sh_u2 (sp_tk (sh_u2 (sh_u2 (sp_row K s (sp_rm l q18)) 5 q18 (-1)) 26 q18 0) q18 s (K 6 q18) (K 9 q18)) 4 q18 (K 10 q18)) 27 q18 0) 21 s ((K 21 s) + 1)) (sh_u2 L 20 s (FP.dadd (L 20 s) (FP.dsub p (L 8 q18)))) 0 0 v9 K9 L9) : sh_cW A md_Gate_serve (11, [(0, .ref (A (20 + s))), (1, .double p), (3, .int (nI z)), (4, .int (nI i))], []) K L 0 0 v9 K9 L9 := by
  refine sh_cp (fun w Z k => sh_iload dc_Gate_serve_11 rfl k) ?_
  refine sh_cp (fun w Z k => sh_iload_n dc_Gate_serve_13 rfl rfl k) ?_
  refine sh_cp (fun w Z k => sh_icmp_ge (tgt := 93) dc_Gate_serve_14 (by decide) (fun z => absurd z hx) (fun _ => k)) ?_
  refine sh_cp (fun w Z k => sh_aload_n dc_Gate_serve_17 rfl rfl k) ?_
  refine sh_ccall (fun w hw => sh_virtU (As := []) dc_Gate_serve_18 lm_Shared_next wd_676 wd_678 (Or.inr ⟨_, _, _, wd_677, wd_697⟩) ⟨by decide, by decide⟩ (by decide +kernel) wd_694 wd_693 rfl rfl (Nat.le_of_ble_eq_true rfl) (hw _ _ (cw_oh (by omega) hk_s)) rfl) (cl_next_Shared (s := s) (l := l) (by omega) hr hk_s) ⟨(Nat.le_of_ble_eq_true rfl), (Nat.le_of_ble_eq_true rfl), (Nat.le_of_ble_eq_true rfl), (Nat.le_of_ble_eq_true rfl)⟩ ?_
  show sh_cW _ _ (_, _, [va_rf ((sp_nx K L s l).map fun u => A (10 + u))]) K L _ _ _ _ _
  refine sh_ctv (show _ = Value.ref (A (10 + q18)) by rw [c1_18]; rfl) ?_
  refine sh_cp (fun w Z k => sh_astore dc_Gate_serve_21 (by decide) k) ?_
  refine sh_cp (fun w Z k => sh_aload dc_Gate_serve_23 rfl k) ?_
  refine sh_cp (fun w Z k => sh_ifnull dc_Gate_serve_25 k) ?_
  refine sh_cp (fun w Z k => sh_aload_n dc_Gate_serve_28 rfl rfl k) ?_
  refine sh_cp (fun w Z k => sh_aload dc_Gate_serve_29 rfl k) ?_
  refine sh_cp (fun w Z k => sh_aload dc_Gate_serve_31 rfl k) ?_
  refine sh_cget (10 + q18) 5 dc_Gate_serve_33 (cw_ow (by omega)) rfl (by decide) fl_Gate_27 rfl rfl rfl rfl ?_
  refine sh_ccall (fun w hw => sh_virtU (As := [.ref (A (10 + q18)), .int (K 6 q18)]) dc_Gate_serve_36 lm_Shared_canTake wd_699 wd_572 (Or.inl wd_571) ⟨by decide, by decide⟩ (by decide +kernel) wd_583 wd_582 rfl rfl (Nat.le_of_ble_eq_true rfl) (hw _ _ (cw_oh (by omega) hk_s)) rfl) (cl_can_Shared (s := s) (t := q18) (m := K 6 q18) (by omega) (by omega) ho v2_36 hk_s) ⟨(Nat.le_of_ble_eq_true rfl), (Nat.le_of_ble_eq_true rfl), (Nat.le_of_ble_eq_true rfl), (Nat.le_of_ble_eq_true rfl)⟩ ?_
  show sh_cW _ _ (_, _, [.int (sp_b (sp_can K q18 s (K 6 q18)))]) K L _ _ _ _ _
  refine sh_cp (fun w Z k => sh_if_ne (tgt := 43) dc_Gate_serve_39 (by decide) (fun _ => k) (fun z => absurd z c3_39)) ?_
  refine sh_cp (fun w Z k => sh_aload_n dc_Gate_serve_43 rfl rfl k) ?_
  refine sh_cp (fun w Z k => sh_aload dc_Gate_serve_44 rfl k) ?_
  refine sh_ccall (fun w hw => sh_virtU (As := [.ref (A (10 + q18))]) dc_Gate_serve_46 lm_Sync_dequeue wd_700 wd_701 (Or.inl wd_702) ⟨by decide, by decide⟩ (by decide +kernel) wd_707 wd_706 rfl rfl (Nat.le_of_ble_eq_true rfl) (hw _ _ (cw_oh (by omega) hk_s)) rfl) (ct_Sync_dequeue_Shared_1 (t := q18) (s := s) (l := l) (by omega) (by omega) hr hk_s) ⟨(Nat.le_of_ble_eq_true rfl), (Nat.le_of_ble_eq_true rfl), (Nat.le_of_ble_eq_true rfl), (Nat.le_of_ble_eq_true rfl)⟩ ?_
  show sh_cW _ _ (_, _, []) (sh_u2 (sh_u2 (sp_row K s (sp_rm l q18)) 5 q18 (-1)) 26 q18 0) L _ _ _ _ _
  refine sh_cp (fun w Z k => sh_aload_n dc_Gate_serve_49 rfl rfl k) ?_
  refine sh_cp (fun w Z k => sh_aload dc_Gate_serve_50 rfl k) ?_
  refine sh_cp (fun w Z k => sh_aload dc_Gate_serve_52 rfl k) ?_
  refine sh_cget (10 + q18) 5 dc_Gate_serve_54 (cw_ow (by omega)) rfl (by decide) fl_Gate_27 rfl rfl rfl rfl ?_
  refine sh_cti (show (sh_u2 (sh_u2 (sp_row K s (sp_rm l q18)) 5 q18 (-1)) 26 q18 0) 6 q18 = K 6 q18 from (Eq.trans (sh_u2_row (by decide) _) (Eq.trans (sh_u2_row (by decide) _) (sp_row_keep (by decide) _)))) ?_
  refine sh_cp (fun w Z k => sh_aload dc_Gate_serve_57 rfl k) ?_
  refine sh_cget (10 + q18) 9 dc_Gate_serve_59 (cw_ow (by omega)) rfl (by decide) fl_Gate_41 rfl rfl rfl rfl ?_
  refine sh_cti (show (sh_u2 (sh_u2 (sp_row K s (sp_rm l q18)) 5 q18 (-1)) 26 q18 0) 9 q18 = K 9 q18 from (Eq.trans (sh_u2_row (by decide) _) (Eq.trans (sh_u2_row (by decide) _) (sp_row_keep (by decide) _)))) ?_
  refine sh_ccall (fun w hw => sh_virtU (As := [.ref (A (10 + q18)), .int (K 6 q18), .int (K 9 q18)]) dc_Gate_serve_62 lm_Shared_take wd_713 wd_591 (Or.inl wd_590) ⟨by decide, by decide⟩ (by decide +kernel) wd_602 wd_601 rfl rfl (Nat.le_of_ble_eq_true rfl) (hw _ _ (cw_oh (by omega) ((congrArg cw_cl (Eq.trans (sh_u2_row (by decide) _) (Eq.trans (sh_u2_row (by decide) _) (sp_row_keep (by decide) _)))).trans hk_s))) rfl) (cl_take_Shared (s := s) (t := q18) (m := K 6 q18) (e := K 9 q18) (by omega) (by omega) ((congrArg cw_cl (Eq.trans (sh_u2_row (by decide) _) (Eq.trans (sh_u2_row (by decide) _) (sp_row_keep (by decide) _)))).trans hk_s)) ⟨(Nat.le_of_ble_eq_true rfl), (Nat.le_of_ble_eq_true rfl), (Nat.le_of_ble_eq_true rfl), (Nat.le_of_ble_eq_true rfl)⟩ ?_
  show sh_cW _ _ (_, _, []) (sp_tk (sh_u2 (sh_u2 (sp_row K s (sp_rm l q18)) 5 q18 (-1)) 26 q18 0) q18 s (K 6 q18) (K 9 q18)) L _ _ _ _ _
  refine sh_cp (fun w Z k => sh_aload dc_Gate_serve_65 rfl k) ?_
  refine sh_cp (fun w Z k => sh_aload dc_Gate_serve_67 rfl k) ?_
  refine sh_cget (10 + q18) 10 dc_Gate_serve_69 (cw_ow (by omega)) rfl (by decide) fl_Gate_48 rfl rfl rfl rfl ?_
  refine sh_cti (show (sp_tk (sh_u2 (sh_u2 (sp_row K s (sp_rm l q18)) 5 q18 (-1)) 26 q18 0) q18 s (K 6 q18) (K 9 q18)) 10 q18 = K 10 q18 from (Eq.trans (sp_tk_keep (by decide) _) (Eq.trans (sh_u2_row (by decide) _) (Eq.trans (sh_u2_row (by decide) _) (sp_row_keep (by decide) _))))) ?_
  refine sh_ccall (fun w hw => sh_virt (As := [.int (K 10 q18)]) dc_Gate_serve_72 lm_Worker_finish ln_Gate_51 wd_496 wd_6 rfl rfl (Nat.le_of_ble_eq_true rfl) (hw _ _ (cw_ow (by omega))) rfl) (ct_Worker_finish_1 (t := q18) (x := K 10 q18) (by omega)) ⟨(Nat.le_of_ble_eq_true rfl), (Nat.le_of_ble_eq_true rfl), (Nat.le_of_ble_eq_true rfl), (Nat.le_of_ble_eq_true rfl)⟩ ?_
  show sh_cW _ _ (_, _, [.int (K 10 q18)]) (sh_u2 (sh_u2 (sp_tk (sh_u2 (sh_u2 (sp_row K s (sp_rm l q18)) 5 q18 (-1)) 26 q18 0) q18 s (K 6 q18) (K 9 q18)) 4 q18 (K 10 q18)) 27 q18 0) L _ _ _ _ _
  refine sh_cp (fun w Z k => sh_pop dc_Gate_serve_75 rfl k) ?_
  refine sh_cp (fun w Z k => sh_aload_n dc_Gate_serve_76 rfl rfl k) ?_
  refine sh_cp (fun w Z k => sh_dload_n dc_Gate_serve_77 rfl rfl k) ?_
  refine sh_cp (fun w Z k => sh_aload dc_Gate_serve_78 rfl k) ?_
  refine sh_cget (10 + q18) 8 dc_Gate_serve_80 (cw_ow (by omega)) rfl (by decide) fl_Gate_55 rfl rfl rfl rfl ?_
  refine sh_cp (fun w Z k => sh_dsub dc_Gate_serve_83 v4_83 k) ?_
  refine sh_ccall (fun w hw => sh_virtU (As := [.double (FP.dsub p (L 8 q18))]) dc_Gate_serve_84 lm_Sync_addWaited wd_715 wd_716 (Or.inl wd_717) ⟨by decide, by decide⟩ (by decide +kernel) wd_722 wd_721 rfl rfl (Nat.le_of_ble_eq_true rfl) (hw _ _ (cw_oh (by omega) ((congrArg cw_cl (Eq.trans (sh_u2_row (by decide) _) (Eq.trans (sh_u2_row (by decide) _) (Eq.trans (sp_tk_keep (by decide) _) (Eq.trans (sh_u2_row (by decide) _) (Eq.trans (sh_u2_row (by decide) _) (sp_row_keep (by decide) _))))))).trans hk_s))) rfl) (ct_Sync_addWaited_Shared_1 (s := s) (x := FP.dsub p (L 8 q18)) (by omega) ((congrArg cw_cl (Eq.trans (sh_u2_row (by decide) _) (Eq.trans (sh_u2_row (by decide) _) (Eq.trans (sp_tk_keep (by decide) _) (Eq.trans (sh_u2_row (by decide) _) (Eq.trans (sh_u2_row (by decide) _) (sp_row_keep (by decide) _))))))).trans hk_s) v5_84) ⟨(Nat.le_of_ble_eq_true rfl), (Nat.le_of_ble_eq_true rfl), (Nat.le_of_ble_eq_true rfl), (Nat.le_of_ble_eq_true rfl)⟩ ?_
  show sh_cW _ _ (_, _, []) (sh_u2 (sh_u2 (sh_u2 (sp_tk (sh_u2 (sh_u2 (sp_row K s (sp_rm l q18)) 5 q18 (-1)) 26 q18 0) q18 s (K 6 q18) (K 9 q18)) 4 q18 (K 10 q18)) 27 q18 0) 21 s (((sh_u2 (sh_u2 (sp_tk (sh_u2 (sh_u2 (sp_row K s (sp_rm l q18)) 5 q18 (-1)) 26 q18 0) q18 s (K 6 q18) (K 9 q18)) 4 q18 (K 10 q18)) 27 q18 0) 21 s) + 1)) (sh_u2 L 20 s (FP.dadd (L 20 s) (FP.dsub p (L 8 q18)))) _ _ _ _ _
  refine sh_cst (show (sh_u2 (sh_u2 (sh_u2 (sp_tk (sh_u2 (sh_u2 (sp_row K s (sp_rm l q18)) 5 q18 (-1)) 26 q18 0) q18 s (K 6 q18) (K 9 q18)) 4 q18 (K 10 q18)) 27 q18 0) 21 s (((sh_u2 (sh_u2 (sp_tk (sh_u2 (sh_u2 (sp_row K s (sp_rm l q18)) 5 q18 (-1)) 26 q18 0) q18 s (K 6 q18) (K 9 q18)) 4 q18 (K 10 q18)) 27 q18 0) 21 s) + 1)) = (sh_u2 (sh_u2 (sh_u2 (sp_tk (sh_u2 (sh_u2 (sp_row K s (sp_rm l q18)) 5 q18 (-1)) 26 q18 0) q18 s (K 6 q18) (K 9 q18)) 4 q18 (K 10 q18)) 27 q18 0) 21 s ((K 21 s) + 1)) from by rw [(show (sh_u2 (sh_u2 (sp_tk (sh_u2 (sh_u2 (sp_row K s (sp_rm l q18)) 5 q18 (-1)) 26 q18 0) q18 s (K 6 q18) (K 9 q18)) 4 q18 (K 10 q18)) 27 q18 0) 21 s = K 21 s from (Eq.trans (sh_u2_row (by decide) _) (Eq.trans (sh_u2_row (by decide) _) (Eq.trans (sp_tk_keep (by decide) _) (Eq.trans (sh_u2_row (by decide) _) (Eq.trans (sh_u2_row (by decide) _) (sp_row_keep (by decide) _)))))))]) rfl ?_
  refine sh_cp (fun w Z k => sh_iinc (v := nI (i + 1)) dc_Gate_serve_87 rfl (sh_nadd rfl (rfl : (1 : Int32) = nI 1)) (by decide) k) ?_
  refine sh_cp (fun w Z k => sh_goto_ (tgt := 11) dc_Gate_serve_90 (by decide) k) ?_
  refine sh_clv [2, 3, 4, 0] rfl ?_
  exact k9
