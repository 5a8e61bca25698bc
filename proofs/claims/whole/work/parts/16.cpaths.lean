theorem ct_Worker_isBlocked_1 {A : Nat → Nat} {K : sh_II} {L : sh_DD} {t : Nat} (ht : t < 6) (c0_1 : (K 5 t) = -1) : sh_cM A md_Worker_isBlocked [.ref (A (10 + t))] K L (.inl (some (.int 0))) K L := by
  refine sh_cp (fun w Z k => sh_aload_n dc_Worker_isBlocked_0 rfl rfl k) ?_
  refine sh_cget (10 + t) 4 dc_Worker_isBlocked_1 (cw_ow (by omega)) rfl (by decide) fl_Worker_18 rfl rfl rfl rfl ?_
  refine sh_ctv (cw_rf_0 c0_1) ?_
  refine sh_cp (fun w Z k => sh_ifnullN (tgt := 11) dc_Worker_isBlocked_4 (by decide) k) ?_
  refine sh_cp (fun w Z k => sh_iconst (v := 0) dc_Worker_isBlocked_11 (by decide) k) ?_
  exact sh_ce (fun w => sh_ireturn dc_Worker_isBlocked_12 rfl rfl (by decide) (by decide))
theorem ct_Worker_isBlocked_2 {A : Nat → Nat} {K : sh_II} {L : sh_DD} {t : Nat} {u5_1 : Nat} (ht : t < 6) (hu5_1 : u5_1 < 8) (c1_1 : (K 5 t) = nI u5_1) : sh_cM A md_Worker_isBlocked [.ref (A (10 + t))] K L (.inl (some (.int 1))) K L := by
  refine sh_cp (fun w Z k => sh_aload_n dc_Worker_isBlocked_0 rfl rfl k) ?_
  refine sh_cget (10 + t) 4 dc_Worker_isBlocked_1 (cw_ow (by omega)) rfl (by decide) fl_Worker_18 rfl rfl rfl rfl ?_
  refine sh_ctv (cw_rf_n c1_1 (by omega)) ?_
  refine sh_cp (fun w Z k => sh_ifnull dc_Worker_isBlocked_4 k) ?_
  refine sh_cp (fun w Z k => sh_iconst (v := 1) dc_Worker_isBlocked_7 (by decide) k) ?_
  refine sh_cp (fun w Z k => sh_goto_ (tgt := 12) dc_Worker_isBlocked_8 (by decide) k) ?_
  exact sh_ce (fun w => sh_ireturn dc_Worker_isBlocked_12 rfl rfl (by decide) (by decide))
theorem ct_Worker_dropFlag_1 {A : Nat → Nat} {K : sh_II} {L : sh_DD} {t : Nat} (ht : t < 6) (v0_11 : narrow .boolean (.int (K 2 t)) = .int (K 2 t)) : sh_cM A md_Worker_dropFlag [.ref (A (10 + t))] K L (.inl (some (.int (K 2 t)))) (sh_u2 K 2 t 0) L := by
  refine sh_cp (fun w Z k => sh_aload_n dc_Worker_dropFlag_0 rfl rfl k) ?_
  refine sh_cget (10 + t) 2 dc_Worker_dropFlag_1 (cw_ow (by omega)) rfl (by decide) fl_Worker_22 rfl rfl rfl rfl ?_
  refine sh_cp (fun w Z k => sh_istore_n dc_Worker_dropFlag_4 rfl (by decide) k) ?_
  refine sh_cp (fun w Z k => sh_aload_n dc_Worker_dropFlag_5 rfl rfl k) ?_
  refine sh_cp (fun w Z k => sh_iconst (v := 0) dc_Worker_dropFlag_6 (by decide) k) ?_
  refine sh_cput (K1 := (sh_u2 K 2 t 0)) (L1 := L) (10 + t) 2 dc_Worker_dropFlag_7 (cw_ow (by omega)) rfl (by decide) fl_Worker_22 rfl rfl rfl rfl pd_Z rfl rfl (cq_Worker_2 (by omega)) (fun i hi => cw_upI (by decide) hi) ?_
  refine sh_cp (fun w Z k => sh_iload_n dc_Worker_dropFlag_10 rfl rfl k) ?_
  exact sh_ce (fun w => sh_ireturn dc_Worker_dropFlag_11 rfl v0_11 (by decide) (by decide))
theorem ct_Worker_finish_1 {A : Nat → Nat} {K : sh_II} {L : sh_DD} {t : Nat} {x : Int32} (ht : t < 6) : sh_cM A md_Worker_finish [.ref (A (10 + t)), .int x] K L (.inl (some (.int x))) (sh_u2 (sh_u2 K 4 t x) 27 t 0) L := by
  refine sh_cp (fun w Z k => sh_aload_n dc_Worker_finish_0 rfl rfl k) ?_
  refine sh_cp (fun w Z k => sh_iload_n dc_Worker_finish_1 rfl rfl k) ?_
  refine sh_cput (K1 := (sh_u2 K 4 t x)) (L1 := L) (10 + t) 3 dc_Worker_finish_2 (cw_ow (by omega)) rfl (by decide) fl_Worker_15 rfl rfl rfl rfl pd_I rfl rfl (cq_Worker_4 (by omega)) (fun i hi => cw_upI (by decide) hi) ?_
  refine sh_cp (fun w Z k => sh_aload_n dc_Worker_finish_5 rfl rfl k) ?_
  refine sh_cp (fun w Z k => sh_iconst (v := 0) dc_Worker_finish_6 (by decide) k) ?_
  refine sh_cput (K1 := (sh_u2 (sh_u2 K 4 t x) 27 t 0)) (L1 := L) (10 + t) 11 dc_Worker_finish_7 (cw_ow (by omega)) rfl (by decide) fl_Worker_26 rfl rfl rfl rfl pd_Z rfl rfl (cq_Worker_27 (by omega)) (fun i hi => cw_upI (by decide) hi) ?_
  refine sh_cp (fun w Z k => sh_iload_n dc_Worker_finish_10 rfl rfl k) ?_
  exact sh_ce (fun w => sh_ireturn dc_Worker_finish_11 rfl rfl (by decide) (by decide))
theorem ct_Worker_setEnd_1 {A : Nat → Nat} {K : sh_II} {L : sh_DD} {t : Nat} {a : UInt64} {b : UInt64} (ht : t < 6) (c0_3 : (Op.cmpValue (FP.dcmp b FP.dconst0) .l) ≤ 0) : sh_cM A md_Worker_setEnd [.ref (A (10 + t)), .double a, .double b] K L (.inl none) K L := by
  refine sh_cp (fun w Z k => sh_dload_n dc_Worker_setEnd_0 rfl rfl k) ?_
  refine sh_cp (fun w Z k => sh_dconst0 dc_Worker_setEnd_1 k) ?_
  refine sh_cp (fun w Z k => sh_dcmp dc_Worker_setEnd_2 k) ?_
  refine sh_cp (fun w Z k => sh_if_le (tgt := 18) dc_Worker_setEnd_3 (by decide) (fun _ => k) (fun z => absurd c0_3 z)) ?_
  exact sh_ce (fun w => sh_return dc_Worker_setEnd_18 rfl (by decide) (by decide))
theorem ct_Worker_setEnd_2 {A : Nat → Nat} {K : sh_II} {L : sh_DD} {t : Nat} {a : UInt64} {b : UInt64} (ht : t < 6) (c0_3 : ¬ (Op.cmpValue (FP.dcmp b FP.dconst0) .l) ≤ 0) (v1_14 : vf_n64 (FP.dadd a b)) : sh_cM A md_Worker_setEnd [.ref (A (10 + t)), .double a, .double b] K L (.inl none) (sh_u2 K 26 t 1) (sh_u2 L 7 t (FP.dadd a b)) := by
  refine sh_cp (fun w Z k => sh_dload_n dc_Worker_setEnd_0 rfl rfl k) ?_
  refine sh_cp (fun w Z k => sh_dconst0 dc_Worker_setEnd_1 k) ?_
  refine sh_cp (fun w Z k => sh_dcmp dc_Worker_setEnd_2 k) ?_
  refine sh_cp (fun w Z k => sh_if_le (tgt := 18) dc_Worker_setEnd_3 (by decide) (fun z => absurd z c0_3) (fun _ => k)) ?_
  refine sh_cp (fun w Z k => sh_aload_n dc_Worker_setEnd_6 rfl rfl k) ?_
  refine sh_cp (fun w Z k => sh_iconst (v := 1) dc_Worker_setEnd_7 (by decide) k) ?_
  refine sh_cput (K1 := (sh_u2 K 26 t 1)) (L1 := L) (10 + t) 6 dc_Worker_setEnd_8 (cw_ow (by omega)) rfl (by decide) fl_Worker_29 rfl rfl rfl rfl pd_Z rfl rfl (cq_Worker_26 (by omega)) (fun i hi => cw_upI (by decide) hi) ?_
  refine sh_cp (fun w Z k => sh_aload_n dc_Worker_setEnd_11 rfl rfl k) ?_
  refine sh_cp (fun w Z k => sh_dload_n dc_Worker_setEnd_12 rfl rfl k) ?_
  refine sh_cp (fun w Z k => sh_dload_n dc_Worker_setEnd_13 rfl rfl k) ?_
  refine sh_cp (fun w Z k => sh_dadd dc_Worker_setEnd_14 v1_14 k) ?_
  refine sh_cput (K1 := (sh_u2 K 26 t 1)) (L1 := (sh_u2 L 7 t (FP.dadd a b))) (10 + t) 7 dc_Worker_setEnd_15 (cw_ow (by omega)) rfl (by decide) fl_Worker_32 rfl rfl rfl rfl pd_D rfl rfl (cq_Worker_7 (by omega)) (fun i hi => cw_upD hi) ?_
  exact sh_ce (fun w => sh_return dc_Worker_setEnd_18 rfl (by decide) (by decide))
theorem ct_Waiters_size_1 {A : Nat → Nat} {K : sh_II} {L : sh_DD} {s : Nat} (hs : s < 8) (hz : ¬ cw_cl (K 12 s) = 0) : sh_cM A md_Waiters_size [.ref (A (30 + s))] K L (.inl (some (.int (K 19 s)))) K L := by
  refine sh_cp (fun w Z k => sh_aload_n dc_Waiters_size_0 rfl rfl k) ?_
  refine sh_cget (30 + s) 1 dc_Waiters_size_1 (cw_ot (by omega) hz) rfl (by decide) fl_Waiters_17 rfl rfl rfl rfl ?_
  exact sh_ce (fun w => sh_ireturn dc_Waiters_size_4 rfl rfl (by decide) (by decide))
theorem ct_Waiters_at_0_1 {A : Nat → Nat} {K : sh_II} {L : sh_DD} {s : Nat} (hs : s < 8) (hz : ¬ cw_cl (K 12 s) = 0) (c0_9 : (K 19 s) ≤ 0) : sh_cM A md_Waiters_at [.ref (A (30 + s)), .int 0] K L (.inl (some (.null))) K L := by
  refine sh_cp (fun w Z k => sh_iload_n dc_Waiters_at_0 rfl rfl k) ?_
  refine sh_cp (fun w Z k => sh_if_lt (tgt := 21) dc_Waiters_at_1 (by decide) (fun z => absurd z (by decide)) (fun _ => k)) ?_
  refine sh_cp (fun w Z k => sh_iload_n dc_Waiters_at_4 rfl rfl k) ?_
  refine sh_cp (fun w Z k => sh_aload_n dc_Waiters_at_5 rfl rfl k) ?_
  refine sh_cget (30 + s) 1 dc_Waiters_at_6 (cw_ot (by omega) hz) rfl (by decide) fl_Waiters_17 rfl rfl rfl rfl ?_
  refine sh_cp (fun w Z k => sh_icmp_ge (tgt := 21) dc_Waiters_at_9 (by decide) (fun _ => k) (fun z => absurd c0_9 z)) ?_
  refine sh_cp (fun w Z k => sh_anull dc_Waiters_at_21 k) ?_
  exact sh_ce (fun w => sh_areturn (v := none) dc_Waiters_at_22 rfl (by decide) (by decide))
theorem ct_Waiters_at_0_2 {A : Nat → Nat} {K : sh_II} {L : sh_DD} {s : Nat} (hs : s < 8) (hz : ¬ cw_cl (K 12 s) = 0) (c0_9 : ¬ (K 19 s) ≤ 0) (c1_17 : (K 18 (6 * s + 0)) = -1) : sh_cM A md_Waiters_at [.ref (A (30 + s)), .int 0] K L (.inl (some (.null))) K L := by
  refine sh_cp (fun w Z k => sh_iload_n dc_Waiters_at_0 rfl rfl k) ?_
  refine sh_cp (fun w Z k => sh_if_lt (tgt := 21) dc_Waiters_at_1 (by decide) (fun z => absurd z (by decide)) (fun _ => k)) ?_
  refine sh_cp (fun w Z k => sh_iload_n dc_Waiters_at_4 rfl rfl k) ?_
  refine sh_cp (fun w Z k => sh_aload_n dc_Waiters_at_5 rfl rfl k) ?_
  refine sh_cget (30 + s) 1 dc_Waiters_at_6 (cw_ot (by omega) hz) rfl (by decide) fl_Waiters_17 rfl rfl rfl rfl ?_
  refine sh_cp (fun w Z k => sh_icmp_ge (tgt := 21) dc_Waiters_at_9 (by decide) (fun z => absurd z c0_9) (fun _ => k)) ?_
  refine sh_cp (fun w Z k => sh_aload_n dc_Waiters_at_12 rfl rfl k) ?_
  refine sh_cget (30 + s) 0 dc_Waiters_at_13 (cw_ot (by omega) hz) rfl (by decide) fl_Waiters_11 rfl rfl rfl rfl ?_
  refine sh_cp (fun w Z k => sh_iload_n dc_Waiters_at_16 rfl rfl k) ?_
  refine sh_caald (40 + s) (k := 0) dc_Waiters_at_17 (cw_or (by omega) hz) rfl rfl (by decide) (by decide) ?_
  refine sh_ctv (cw_rf_0 c1_17) ?_
  refine sh_cp (fun w Z k => sh_goto_ (tgt := 22) dc_Waiters_at_18 (by decide) k) ?_
  exact sh_ce (fun w => sh_areturn (v := none) dc_Waiters_at_22 rfl (by decide) (by decide))
theorem ct_Waiters_at_0_3 {A : Nat → Nat} {K : sh_II} {L : sh_DD} {s : Nat} {u18_17 : Nat} (hs : s < 8) (hz : ¬ cw_cl (K 12 s) = 0) (c0_9 : ¬ (K 19 s) ≤ 0) (hu18_17 : u18_17 < 6) (c2_17 : (K 18 (6 * s + 0)) = nI u18_17) : sh_cM A md_Waiters_at [.ref (A (30 + s)), .int 0] K L (.inl (some (.ref (A (10 + u18_17))))) K L := by
  refine sh_cp (fun w Z k => sh_iload_n dc_Waiters_at_0 rfl rfl k) ?_
  refine sh_cp (fun w Z k => sh_if_lt (tgt := 21) dc_Waiters_at_1 (by decide) (fun z => absurd z (by decide)) (fun _ => k)) ?_
  refine sh_cp (fun w Z k => sh_iload_n dc_Waiters_at_4 rfl rfl k) ?_
  refine sh_cp (fun w Z k => sh_aload_n dc_Waiters_at_5 rfl rfl k) ?_
  refine sh_cget (30 + s) 1 dc_Waiters_at_6 (cw_ot (by omega) hz) rfl (by decide) fl_Waiters_17 rfl rfl rfl rfl ?_
  refine sh_cp (fun w Z k => sh_icmp_ge (tgt := 21) dc_Waiters_at_9 (by decide) (fun z => absurd z c0_9) (fun _ => k)) ?_
  refine sh_cp (fun w Z k => sh_aload_n dc_Waiters_at_12 rfl rfl k) ?_
  refine sh_cget (30 + s) 0 dc_Waiters_at_13 (cw_ot (by omega) hz) rfl (by decide) fl_Waiters_11 rfl rfl rfl rfl ?_
  refine sh_cp (fun w Z k => sh_iload_n dc_Waiters_at_16 rfl rfl k) ?_
  refine sh_caald (40 + s) (k := 0) dc_Waiters_at_17 (cw_or (by omega) hz) rfl rfl (by decide) (by decide) ?_
  refine sh_ctv (cw_rf_n c2_17 (by omega)) ?_
  refine sh_cp (fun w Z k => sh_goto_ (tgt := 22) dc_Waiters_at_18 (by decide) k) ?_
  exact sh_ce (fun w => sh_areturn (v := (some (A (10 + u18_17)))) dc_Waiters_at_22 rfl (by decide) (by decide))
theorem ct_Waiters_at_1 {A : Nat → Nat} {K : sh_II} {L : sh_DD} {s : Nat} {i : Nat} (hs : s < 8) (hz : ¬ cw_cl (K 12 s) = 0) (hi : i < 6) (c0_9 : (K 19 s) ≤ (nI i)) : sh_cM A md_Waiters_at [.ref (A (30 + s)), .int (nI i)] K L (.inl (some (.null))) K L := by
  refine sh_cp (fun w Z k => sh_iload_n dc_Waiters_at_0 rfl rfl k) ?_
  refine sh_cp (fun w Z k => sh_if_lt (tgt := 21) dc_Waiters_at_1 (by decide) (fun z => absurd z (nI_pos (by omega))) (fun _ => k)) ?_
  refine sh_cp (fun w Z k => sh_iload_n dc_Waiters_at_4 rfl rfl k) ?_
  refine sh_cp (fun w Z k => sh_aload_n dc_Waiters_at_5 rfl rfl k) ?_
  refine sh_cget (30 + s) 1 dc_Waiters_at_6 (cw_ot (by omega) hz) rfl (by decide) fl_Waiters_17 rfl rfl rfl rfl ?_
  refine sh_cp (fun w Z k => sh_icmp_ge (tgt := 21) dc_Waiters_at_9 (by decide) (fun _ => k) (fun z => absurd c0_9 z)) ?_
  refine sh_cp (fun w Z k => sh_anull dc_Waiters_at_21 k) ?_
  exact sh_ce (fun w => sh_areturn (v := none) dc_Waiters_at_22 rfl (by decide) (by decide))
theorem ct_Waiters_at_2 {A : Nat → Nat} {K : sh_II} {L : sh_DD} {s : Nat} {i : Nat} (hs : s < 8) (hz : ¬ cw_cl (K 12 s) = 0) (hi : i < 6) (c0_9 : ¬ (K 19 s) ≤ (nI i)) (c1_17 : (K 18 (6 * s + i)) = -1) : sh_cM A md_Waiters_at [.ref (A (30 + s)), .int (nI i)] K L (.inl (some (.null))) K L := by
  refine sh_cp (fun w Z k => sh_iload_n dc_Waiters_at_0 rfl rfl k) ?_
  refine sh_cp (fun w Z k => sh_if_lt (tgt := 21) dc_Waiters_at_1 (by decide) (fun z => absurd z (nI_pos (by omega))) (fun _ => k)) ?_
  refine sh_cp (fun w Z k => sh_iload_n dc_Waiters_at_4 rfl rfl k) ?_
  refine sh_cp (fun w Z k => sh_aload_n dc_Waiters_at_5 rfl rfl k) ?_
  refine sh_cget (30 + s) 1 dc_Waiters_at_6 (cw_ot (by omega) hz) rfl (by decide) fl_Waiters_17 rfl rfl rfl rfl ?_
  refine sh_cp (fun w Z k => sh_icmp_ge (tgt := 21) dc_Waiters_at_9 (by decide) (fun z => absurd z c0_9) (fun _ => k)) ?_
  refine sh_cp (fun w Z k => sh_aload_n dc_Waiters_at_12 rfl rfl k) ?_
  refine sh_cget (30 + s) 0 dc_Waiters_at_13 (cw_ot (by omega) hz) rfl (by decide) fl_Waiters_11 rfl rfl rfl rfl ?_
  refine sh_cp (fun w Z k => sh_iload_n dc_Waiters_at_16 rfl rfl k) ?_
  refine sh_caald (40 + s) (k := i) dc_Waiters_at_17 (cw_or (by omega) hz) rfl rfl (by omega) (by decide) ?_
  refine sh_ctv (cw_rf_0 c1_17) ?_
  refine sh_cp (fun w Z k => sh_goto_ (tgt := 22) dc_Waiters_at_18 (by decide) k) ?_
  exact sh_ce (fun w => sh_areturn (v := none) dc_Waiters_at_22 rfl (by decide) (by decide))
theorem ct_Waiters_at_3 {A : Nat → Nat} {K : sh_II} {L : sh_DD} {s : Nat} {i : Nat} {u18_17 : Nat} (hs : s < 8) (hz : ¬ cw_cl (K 12 s) = 0) (hi : i < 6) (c0_9 : ¬ (K 19 s) ≤ (nI i)) (hu18_17 : u18_17 < 6) (c2_17 : (K 18 (6 * s + i)) = nI u18_17) : sh_cM A md_Waiters_at [.ref (A (30 + s)), .int (nI i)] K L (.inl (some (.ref (A (10 + u18_17))))) K L := by
  refine sh_cp (fun w Z k => sh_iload_n dc_Waiters_at_0 rfl rfl k) ?_
  refine sh_cp (fun w Z k => sh_if_lt (tgt := 21) dc_Waiters_at_1 (by decide) (fun z => absurd z (nI_pos (by omega))) (fun _ => k)) ?_
  refine sh_cp (fun w Z k => sh_iload_n dc_Waiters_at_4 rfl rfl k) ?_
  refine sh_cp (fun w Z k => sh_aload_n dc_Waiters_at_5 rfl rfl k) ?_
  refine sh_cget (30 + s) 1 dc_Waiters_at_6 (cw_ot (by omega) hz) rfl (by decide) fl_Waiters_17 rfl rfl rfl rfl ?_
  refine sh_cp (fun w Z k => sh_icmp_ge (tgt := 21) dc_Waiters_at_9 (by decide) (fun z => absurd z c0_9) (fun _ => k)) ?_
  refine sh_cp (fun w Z k => sh_aload_n dc_Waiters_at_12 rfl rfl k) ?_
  refine sh_cget (30 + s) 0 dc_Waiters_at_13 (cw_ot (by omega) hz) rfl (by decide) fl_Waiters_11 rfl rfl rfl rfl ?_
  refine sh_cp (fun w Z k => sh_iload_n dc_Waiters_at_16 rfl rfl k) ?_
  refine sh_caald (40 + s) (k := i) dc_Waiters_at_17 (cw_or (by omega) hz) rfl rfl (by omega) (by decide) ?_
  refine sh_ctv (cw_rf_n c2_17 (by omega)) ?_
  refine sh_cp (fun w Z k => sh_goto_ (tgt := 22) dc_Waiters_at_18 (by decide) k) ?_
  exact sh_ce (fun w => sh_areturn (v := (some (A (10 + u18_17)))) dc_Waiters_at_22 rfl (by decide) (by decide))
theorem ct_Waiters_add_1 {A : Nat → Nat} {K : sh_II} {L : sh_DD} {s : Nat} {t : Nat} {c : Nat} (hs : s < 8) (ht : t < 6) (hz : ¬ cw_cl (K 12 s) = 0) (hc : c < 6) (ec : K 19 s = nI c) : sh_cM A md_Waiters_add [.ref (A (30 + s)), .ref (A (10 + t))] K L (.inl none) (sh_u2 (sh_u2 K 18 (6 * s + c) (nI t)) 19 s ((K 19 s) + 1)) L := by
  refine sh_cp (fun w Z k => sh_aload_n dc_Waiters_add_0 rfl rfl k) ?_
  refine sh_cget (30 + s) 1 dc_Waiters_add_1 (cw_ot (by omega) hz) rfl (by decide) fl_Waiters_17 rfl rfl rfl rfl ?_
  refine sh_cp (fun w Z k => sh_aload_n dc_Waiters_add_4 rfl rfl k) ?_
  refine sh_cget (30 + s) 0 dc_Waiters_add_5 (cw_ot (by omega) hz) rfl (by decide) fl_Waiters_11 rfl rfl rfl rfl ?_
  refine sh_calen (40 + s) dc_Waiters_add_8 (cw_or (by omega) hz) rfl ?_
  refine sh_cp (fun w Z k => sh_icmp_ge (tgt := 32) dc_Waiters_add_9 (by decide) (fun z => absurd z (by rw [ec]; exact nI_ge (b := 6) hc (by decide))) (fun _ => k)) ?_
  refine sh_cp (fun w Z k => sh_aload_n dc_Waiters_add_12 rfl rfl k) ?_
  refine sh_cget (30 + s) 0 dc_Waiters_add_13 (cw_ot (by omega) hz) rfl (by decide) fl_Waiters_11 rfl rfl rfl rfl ?_
  refine sh_cp (fun w Z k => sh_aload_n dc_Waiters_add_16 rfl rfl k) ?_
  refine sh_cget (30 + s) 1 dc_Waiters_add_17 (cw_ot (by omega) hz) rfl (by decide) fl_Waiters_17 rfl rfl rfl rfl ?_
  refine sh_cp (fun w Z k => sh_aload_n dc_Waiters_add_20 rfl rfl k) ?_
  refine sh_caast (K1 := (sh_u2 K 18 (6 * s + c) (nI t))) (L1 := L) (40 + s) (10 + t) (k := c) dc_Waiters_add_21 (cw_or (by omega) hz) rfl ec (by omega) (by decide) (cw_ow (by omega)) rfl (Or.inl rfl) (cq_rw_18 (by omega) hz (by omega) (by omega)) (fun i hi => cw_upI (by decide) (by show i ≠ 40 + _ / 6; omega)) ?_
  refine sh_cp (fun w Z k => sh_aload_n dc_Waiters_add_22 rfl rfl k) ?_
  refine sh_cp (fun w Z k => sh_dup dc_Waiters_add_23 rfl k) ?_
  refine sh_cget (30 + s) 1 dc_Waiters_add_24 (cw_ot (by omega) (fun e => hz ((congrArg cw_cl (sh_u2_row (by decide) _)).symm.trans e))) rfl (by decide) fl_Waiters_17 rfl rfl rfl rfl ?_
  refine sh_cti (show (sh_u2 K 18 (6 * s + c) (nI t)) 19 s = K 19 s from (sh_u2_row (by decide) _)) ?_
  refine sh_cp (fun w Z k => sh_iconst (v := 1) dc_Waiters_add_27 (by decide) k) ?_
  refine sh_cp (fun w Z k => sh_iadd dc_Waiters_add_28 k) ?_
  refine sh_cput (K1 := (sh_u2 (sh_u2 K 18 (6 * s + c) (nI t)) 19 s ((K 19 s) + 1))) (L1 := L) (30 + s) 1 dc_Waiters_add_29 (cw_ot (by omega) (fun e => hz ((congrArg cw_cl (sh_u2_row (by decide) _)).symm.trans e))) rfl (by decide) fl_Waiters_17 rfl rfl rfl rfl pd_I rfl rfl (cq_Waiters_19 (by omega) (fun e => hz ((congrArg cw_cl (sh_u2_row (by decide) _)).symm.trans e))) (fun i hi => cw_upI (by decide) hi) ?_
  exact sh_ce (fun w => sh_return dc_Waiters_add_32 rfl (by decide) (by decide))
theorem ct_Hall_checkNumber_1 {A : Nat → Nat} {K : sh_II} {L : sh_DD} {x : Int32} {lo : Int32} {hi : Int32} (c0_2 : x < lo) : sh_cM A md_Hall_checkNumber [.int x, .int lo, .int hi] K L (.inr 1) K L := by
  refine sh_cp (fun w Z k => sh_iload_n dc_Hall_checkNumber_0 rfl rfl k) ?_
  refine sh_cp (fun w Z k => sh_iload_n dc_Hall_checkNumber_1 rfl rfl k) ?_
  refine sh_cp (fun w Z k => sh_icmp_lt (tgt := 10) dc_Hall_checkNumber_2 (by decide) (fun _ => k) (fun z => absurd c0_2 z)) ?_
  exact sh_ct (fun w => sh_thr (lx := 2) (tx := "a number out of range") dc_Hall_checkNumber_10 dc_Hall_checkNumber_13 (Or.inl ⟨dc_Hall_checkNumber_14, rfl⟩) dc_Hall_checkNumber_16 dc_Hall_checkNumber_19 lx_Hall_227_231 (by decide +kernel) rfl (by decide) (by decide) (by decide) (by decide))
theorem ct_Hall_checkNumber_2 {A : Nat → Nat} {K : sh_II} {L : sh_DD} {x : Int32} {lo : Int32} {hi : Int32} (c0_2 : ¬ x < lo) (c1_7 : x ≤ hi) : sh_cM A md_Hall_checkNumber [.int x, .int lo, .int hi] K L (.inl none) K L := by
  refine sh_cp (fun w Z k => sh_iload_n dc_Hall_checkNumber_0 rfl rfl k) ?_
  refine sh_cp (fun w Z k => sh_iload_n dc_Hall_checkNumber_1 rfl rfl k) ?_
  refine sh_cp (fun w Z k => sh_icmp_lt (tgt := 10) dc_Hall_checkNumber_2 (by decide) (fun z => absurd z c0_2) (fun _ => k)) ?_
  refine sh_cp (fun w Z k => sh_iload_n dc_Hall_checkNumber_5 rfl rfl k) ?_
  refine sh_cp (fun w Z k => sh_iload_n dc_Hall_checkNumber_6 rfl rfl k) ?_
  refine sh_cp (fun w Z k => sh_icmp_le (tgt := 20) dc_Hall_checkNumber_7 (by decide) (fun _ => k) (fun z => absurd c1_7 z)) ?_
  exact sh_ce (fun w => sh_return dc_Hall_checkNumber_20 rfl (by decide) (by decide))
theorem ct_Hall_checkNumber_3 {A : Nat → Nat} {K : sh_II} {L : sh_DD} {x : Int32} {lo : Int32} {hi : Int32} (c0_2 : ¬ x < lo) (c1_7 : ¬ x ≤ hi) : sh_cM A md_Hall_checkNumber [.int x, .int lo, .int hi] K L (.inr 1) K L := by
  refine sh_cp (fun w Z k => sh_iload_n dc_Hall_checkNumber_0 rfl rfl k) ?_
  refine sh_cp (fun w Z k => sh_iload_n dc_Hall_checkNumber_1 rfl rfl k) ?_
  refine sh_cp (fun w Z k => sh_icmp_lt (tgt := 10) dc_Hall_checkNumber_2 (by decide) (fun z => absurd z c0_2) (fun _ => k)) ?_
  refine sh_cp (fun w Z k => sh_iload_n dc_Hall_checkNumber_5 rfl rfl k) ?_
  refine sh_cp (fun w Z k => sh_iload_n dc_Hall_checkNumber_6 rfl rfl k) ?_
  refine sh_cp (fun w Z k => sh_icmp_le (tgt := 20) dc_Hall_checkNumber_7 (by decide) (fun z => absurd z c1_7) (fun _ => k)) ?_
  exact sh_ct (fun w => sh_thr (lx := 2) (tx := "a number out of range") dc_Hall_checkNumber_10 dc_Hall_checkNumber_13 (Or.inl ⟨dc_Hall_checkNumber_14, rfl⟩) dc_Hall_checkNumber_16 dc_Hall_checkNumber_19 lx_Hall_227_231 (by decide +kernel) rfl (by decide) (by decide) (by decide) (by decide))
theorem ct_Hall_checkAmount_1 {A : Nat → Nat} {K : sh_II} {L : sh_DD} {x : UInt64} {lo : Int32} {hi : Int32} (c0_4 : (Op.cmpValue (FP.dcmp x (FP.i2d lo)) .l) < 0) : sh_cM A md_Hall_checkAmount [.double x, .int lo, .int hi] K L (.inr 1) K L := by
  refine sh_cp (fun w Z k => sh_dload_n dc_Hall_checkAmount_0 rfl rfl k) ?_
  refine sh_cp (fun w Z k => sh_iload_n dc_Hall_checkAmount_1 rfl rfl k) ?_
  refine sh_cp (fun w Z k => sh_i2d dc_Hall_checkAmount_2 k) ?_
  refine sh_cp (fun w Z k => sh_dcmp dc_Hall_checkAmount_3 k) ?_
  refine sh_cp (fun w Z k => sh_if_lt (tgt := 14) dc_Hall_checkAmount_4 (by decide) (fun _ => k) (fun z => absurd c0_4 z)) ?_
  exact sh_ct (fun w => sh_thr (lx := 2) (tx := "an amount out of range") dc_Hall_checkAmount_14 dc_Hall_checkAmount_17 (Or.inl ⟨dc_Hall_checkAmount_18, rfl⟩) dc_Hall_checkAmount_20 dc_Hall_checkAmount_23 lx_Hall_227_231 (by decide +kernel) rfl (by decide) (by decide) (by decide) (by decide))
theorem ct_Hall_checkAmount_2 {A : Nat → Nat} {K : sh_II} {L : sh_DD} {x : UInt64} {lo : Int32} {hi : Int32} (c0_4 : ¬ (Op.cmpValue (FP.dcmp x (FP.i2d lo)) .l) < 0) (c1_11 : (Op.cmpValue (FP.dcmp x (FP.i2d hi)) .g) ≤ 0) : sh_cM A md_Hall_checkAmount [.double x, .int lo, .int hi] K L (.inl none) K L := by
  refine sh_cp (fun w Z k => sh_dload_n dc_Hall_checkAmount_0 rfl rfl k) ?_
  refine sh_cp (fun w Z k => sh_iload_n dc_Hall_checkAmount_1 rfl rfl k) ?_
  refine sh_cp (fun w Z k => sh_i2d dc_Hall_checkAmount_2 k) ?_
  refine sh_cp (fun w Z k => sh_dcmp dc_Hall_checkAmount_3 k) ?_
  refine sh_cp (fun w Z k => sh_if_lt (tgt := 14) dc_Hall_checkAmount_4 (by decide) (fun z => absurd z c0_4) (fun _ => k)) ?_
  refine sh_cp (fun w Z k => sh_dload_n dc_Hall_checkAmount_7 rfl rfl k) ?_
  refine sh_cp (fun w Z k => sh_iload_n dc_Hall_checkAmount_8 rfl rfl k) ?_
  refine sh_cp (fun w Z k => sh_i2d dc_Hall_checkAmount_9 k) ?_
  refine sh_cp (fun w Z k => sh_dcmp dc_Hall_checkAmount_10 k) ?_
  refine sh_cp (fun w Z k => sh_if_le (tgt := 24) dc_Hall_checkAmount_11 (by decide) (fun _ => k) (fun z => absurd c1_11 z)) ?_
  exact sh_ce (fun w => sh_return dc_Hall_checkAmount_24 rfl (by decide) (by decide))
theorem ct_Hall_checkAmount_3 {A : Nat → Nat} {K : sh_II} {L : sh_DD} {x : UInt64} {lo : Int32} {hi : Int32} (c0_4 : ¬ (Op.cmpValue (FP.dcmp x (FP.i2d lo)) .l) < 0) (c1_11 : ¬ (Op.cmpValue (FP.dcmp x (FP.i2d hi)) .g) ≤ 0) : sh_cM A md_Hall_checkAmount [.double x, .int lo, .int hi] K L (.inr 1) K L := by
  refine sh_cp (fun w Z k => sh_dload_n dc_Hall_checkAmount_0 rfl rfl k) ?_
  refine sh_cp (fun w Z k => sh_iload_n dc_Hall_checkAmount_1 rfl rfl k) ?_
  refine sh_cp (fun w Z k => sh_i2d dc_Hall_checkAmount_2 k) ?_
  refine sh_cp (fun w Z k => sh_dcmp dc_Hall_checkAmount_3 k) ?_
  refine sh_cp (fun w Z k => sh_if_lt (tgt := 14) dc_Hall_checkAmount_4 (by decide) (fun z => absurd z c0_4) (fun _ => k)) ?_
  refine sh_cp (fun w Z k => sh_dload_n dc_Hall_checkAmount_7 rfl rfl k) ?_
  refine sh_cp (fun w Z k => sh_iload_n dc_Hall_checkAmount_8 rfl rfl k) ?_
  refine sh_cp (fun w Z k => sh_i2d dc_Hall_checkAmount_9 k) ?_
  refine sh_cp (fun w Z k => sh_dcmp dc_Hall_checkAmount_10 k) ?_
  refine sh_cp (fun w Z k => sh_if_le (tgt := 24) dc_Hall_checkAmount_11 (by decide) (fun z => absurd z c1_11) (fun _ => k)) ?_
  exact sh_ct (fun w => sh_thr (lx := 2) (tx := "an amount out of range") dc_Hall_checkAmount_14 dc_Hall_checkAmount_17 (Or.inl ⟨dc_Hall_checkAmount_18, rfl⟩) dc_Hall_checkAmount_20 dc_Hall_checkAmount_23 lx_Hall_227_231 (by decide +kernel) rfl (by decide) (by decide) (by decide) (by decide))
theorem ct_Hall_checkRunning_1 {A : Nat → Nat} {K : sh_II} {L : sh_DD} {t : Nat} (ht : t < 6) (c0_1 : (K 5 t) = -1) : sh_cM A md_Hall_checkRunning [.ref (A (10 + t))] K L (.inl none) K L := by
  refine sh_cp (fun w Z k => sh_aload_n dc_Hall_checkRunning_0 rfl rfl k) ?_
  refine sh_ccall (fun w hw => sh_virt (As := []) dc_Hall_checkRunning_1 lm_Worker_isBlocked ln_Hall_176 wd_467 wd_4 rfl rfl (Nat.le_of_ble_eq_true rfl) (hw _ _ (cw_ow (by omega))) rfl) (ct_Worker_isBlocked_1 (t := t) (by omega) c0_1) ⟨(Nat.le_of_ble_eq_true rfl), (Nat.le_of_ble_eq_true rfl), (Nat.le_of_ble_eq_true rfl), (Nat.le_of_ble_eq_true rfl)⟩ ?_
  show sh_cW _ _ (_, _, [.int 0]) K L _ _ _ _ _
  refine sh_cp (fun w Z k => sh_if_eq (tgt := 17) dc_Hall_checkRunning_4 (by decide) (fun _ => k) (fun z => absurd (by decide) z)) ?_
  exact sh_ce (fun w => sh_return dc_Hall_checkRunning_17 rfl (by decide) (by decide))
theorem ct_Hall_checkRunning_2 {A : Nat → Nat} {K : sh_II} {L : sh_DD} {t : Nat} {u5_1 : Nat} (ht : t < 6) (hu5_1 : u5_1 < 8) (c1_1 : (K 5 t) = nI u5_1) : sh_cM A md_Hall_checkRunning [.ref (A (10 + t))] K L (.inr 3) K L := by
  refine sh_cp (fun w Z k => sh_aload_n dc_Hall_checkRunning_0 rfl rfl k) ?_
  refine sh_ccall (fun w hw => sh_virt (As := []) dc_Hall_checkRunning_1 lm_Worker_isBlocked ln_Hall_176 wd_467 wd_4 rfl rfl (Nat.le_of_ble_eq_true rfl) (hw _ _ (cw_ow (by omega))) rfl) (ct_Worker_isBlocked_2 (t := t) (u5_1 := u5_1) (by omega) (by omega) c1_1) ⟨(Nat.le_of_ble_eq_true rfl), (Nat.le_of_ble_eq_true rfl), (Nat.le_of_ble_eq_true rfl), (Nat.le_of_ble_eq_true rfl)⟩ ?_
  show sh_cW _ _ (_, _, [.int 1]) K L _ _ _ _ _
  refine sh_cp (fun w Z k => sh_if_eq (tgt := 17) dc_Hall_checkRunning_4 (by decide) (fun z => absurd z (by decide)) (fun _ => k)) ?_
  exact sh_ct (fun w => sh_thr (lx := 2) (tx := "the thread is blocked") dc_Hall_checkRunning_7 dc_Hall_checkRunning_10 (Or.inl ⟨dc_Hall_checkRunning_11, rfl⟩) dc_Hall_checkRunning_13 dc_Hall_checkRunning_16 lx_Hall_51_55 (by decide +kernel) rfl (by decide) (by decide) (by decide) (by decide))
theorem ct_Lock_isAgain_1 {A : Nat → Nat} {K : sh_II} {L : sh_DD} {t : Nat} {s : Nat} (ht : t < 6) (hs : s < 8) (hk_s : cw_cl (K 12 s) = 4) (c0_5 : (K 12 s) = 1) (c1_9 : (K 13 s) = -1) : sh_cM A md_Lock_isAgain [.ref (A (20 + s)), .ref (A (10 + t))] K L (.inl (some (.int 0))) K L := by
  refine sh_cp (fun w Z k => sh_aload_n dc_Lock_isAgain_0 rfl rfl k) ?_
  refine sh_cget (20 + s) 0 dc_Lock_isAgain_1 (cw_ol (by omega) hk_s) rfl (by decide) fl_Lock_41 rfl rfl rfl rfl ?_
  refine sh_cp (fun w Z k => sh_iconst (v := 1) dc_Lock_isAgain_4 (by decide) k) ?_
  refine sh_cp (fun w Z k => sh_icmp_ne (tgt := 20) dc_Lock_isAgain_5 (by decide) (fun z => absurd c0_5 z) (fun _ => k)) ?_
  refine sh_cp (fun w Z k => sh_aload_n dc_Lock_isAgain_8 rfl rfl k) ?_
  refine sh_cget (20 + s) 4 dc_Lock_isAgain_9 (cw_ol (by omega) hk_s) rfl (by decide) fl_Lock_9 rfl rfl rfl rfl ?_
  refine sh_ctv (cw_rf_0 c1_9) ?_
  refine sh_cp (fun w Z k => sh_aload_n dc_Lock_isAgain_12 rfl rfl k) ?_
  refine sh_cp (fun w Z k => sh_acmp_ne (rx := none) (ry := (some (A (10 + t)))) (tgt := 20) dc_Lock_isAgain_13 (by decide) (fun _ => k) (fun z => absurd z (fun z => by cases z))) ?_
  refine sh_cp (fun w Z k => sh_iconst (v := 0) dc_Lock_isAgain_20 (by decide) k) ?_
  exact sh_ce (fun w => sh_ireturn dc_Lock_isAgain_21 rfl rfl (by decide) (by decide))
theorem ct_Lock_isAgain_2 {A : Nat → Nat} {K : sh_II} {L : sh_DD} {t : Nat} {s : Nat} {u13_9 : Nat} (ht : t < 6) (hs : s < 8) (hk_s : cw_cl (K 12 s) = 4) (c0_5 : (K 12 s) = 1) (hu13_9 : u13_9 < 6) (c2_9 : (K 13 s) = nI u13_9) (c3_13 : u13_9 = t) : sh_cM A md_Lock_isAgain [.ref (A (20 + s)), .ref (A (10 + t))] K L (.inl (some (.int 1))) K L := by
  refine sh_cp (fun w Z k => sh_aload_n dc_Lock_isAgain_0 rfl rfl k) ?_
  refine sh_cget (20 + s) 0 dc_Lock_isAgain_1 (cw_ol (by omega) hk_s) rfl (by decide) fl_Lock_41 rfl rfl rfl rfl ?_
  refine sh_cp (fun w Z k => sh_iconst (v := 1) dc_Lock_isAgain_4 (by decide) k) ?_
  refine sh_cp (fun w Z k => sh_icmp_ne (tgt := 20) dc_Lock_isAgain_5 (by decide) (fun z => absurd c0_5 z) (fun _ => k)) ?_
  refine sh_cp (fun w Z k => sh_aload_n dc_Lock_isAgain_8 rfl rfl k) ?_
  refine sh_cget (20 + s) 4 dc_Lock_isAgain_9 (cw_ol (by omega) hk_s) rfl (by decide) fl_Lock_9 rfl rfl rfl rfl ?_
  refine sh_ctv (cw_rf_n c2_9 (by omega)) ?_
  refine sh_cp (fun w Z k => sh_aload_n dc_Lock_isAgain_12 rfl rfl k) ?_
  refine sh_cacmp_ne (tgt := 20) dc_Lock_isAgain_13 (by decide) (by rw [cw_ow (by omega)]; rfl) (by rw [cw_ow (by omega)]; rfl) (fun z => absurd (by omega) z) (fun _ => ?_)
  refine sh_cp (fun w Z k => sh_iconst (v := 1) dc_Lock_isAgain_16 (by decide) k) ?_
  refine sh_cp (fun w Z k => sh_goto_ (tgt := 21) dc_Lock_isAgain_17 (by decide) k) ?_
  exact sh_ce (fun w => sh_ireturn dc_Lock_isAgain_21 rfl rfl (by decide) (by decide))
theorem ct_Lock_isAgain_3 {A : Nat → Nat} {K : sh_II} {L : sh_DD} {t : Nat} {s : Nat} {u13_9 : Nat} (ht : t < 6) (hs : s < 8) (hk_s : cw_cl (K 12 s) = 4) (c0_5 : (K 12 s) = 1) (hu13_9 : u13_9 < 6) (c2_9 : (K 13 s) = nI u13_9) (c3_13 : ¬ u13_9 = t) : sh_cM A md_Lock_isAgain [.ref (A (20 + s)), .ref (A (10 + t))] K L (.inl (some (.int 0))) K L := by
  refine sh_cp (fun w Z k => sh_aload_n dc_Lock_isAgain_0 rfl rfl k) ?_
  refine sh_cget (20 + s) 0 dc_Lock_isAgain_1 (cw_ol (by omega) hk_s) rfl (by decide) fl_Lock_41 rfl rfl rfl rfl ?_
  refine sh_cp (fun w Z k => sh_iconst (v := 1) dc_Lock_isAgain_4 (by decide) k) ?_
  refine sh_cp (fun w Z k => sh_icmp_ne (tgt := 20) dc_Lock_isAgain_5 (by decide) (fun z => absurd c0_5 z) (fun _ => k)) ?_
  refine sh_cp (fun w Z k => sh_aload_n dc_Lock_isAgain_8 rfl rfl k) ?_
  refine sh_cget (20 + s) 4 dc_Lock_isAgain_9 (cw_ol (by omega) hk_s) rfl (by decide) fl_Lock_9 rfl rfl rfl rfl ?_
  refine sh_ctv (cw_rf_n c2_9 (by omega)) ?_
  refine sh_cp (fun w Z k => sh_aload_n dc_Lock_isAgain_12 rfl rfl k) ?_
  refine sh_cacmp_ne (tgt := 20) dc_Lock_isAgain_13 (by decide) (by rw [cw_ow (by omega)]; rfl) (by rw [cw_ow (by omega)]; rfl) (fun _ => ?_) (fun z => absurd z (by omega))
  refine sh_cp (fun w Z k => sh_iconst (v := 0) dc_Lock_isAgain_20 (by decide) k) ?_
  exact sh_ce (fun w => sh_ireturn dc_Lock_isAgain_21 rfl rfl (by decide) (by decide))
theorem ct_Lock_isAgain_4 {A : Nat → Nat} {K : sh_II} {L : sh_DD} {t : Nat} {s : Nat} (ht : t < 6) (hs : s < 8) (hk_s : cw_cl (K 12 s) = 4) (c0_5 : ¬ (K 12 s) = 1) : sh_cM A md_Lock_isAgain [.ref (A (20 + s)), .ref (A (10 + t))] K L (.inl (some (.int 0))) K L := by
  refine sh_cp (fun w Z k => sh_aload_n dc_Lock_isAgain_0 rfl rfl k) ?_
  refine sh_cget (20 + s) 0 dc_Lock_isAgain_1 (cw_ol (by omega) hk_s) rfl (by decide) fl_Lock_41 rfl rfl rfl rfl ?_
  refine sh_cp (fun w Z k => sh_iconst (v := 1) dc_Lock_isAgain_4 (by decide) k) ?_
  refine sh_cp (fun w Z k => sh_icmp_ne (tgt := 20) dc_Lock_isAgain_5 (by decide) (fun _ => k) (fun z => absurd z c0_5)) ?_
  refine sh_cp (fun w Z k => sh_iconst (v := 0) dc_Lock_isAgain_20 (by decide) k) ?_
  exact sh_ce (fun w => sh_ireturn dc_Lock_isAgain_21 rfl rfl (by decide) (by decide))
theorem ct_Lock_free_1 {A : Nat → Nat} {K : sh_II} {L : sh_DD} {s : Nat} (hs : s < 8) (hk_s : cw_cl (K 12 s) = 4) : sh_cM A md_Lock_free [.ref (A (20 + s))] K L (.inl none) (sh_u2 (sh_u2 K 13 s (-1)) 14 s 0) L := by
  refine sh_cp (fun w Z k => sh_aload_n dc_Lock_free_0 rfl rfl k) ?_
  refine sh_cp (fun w Z k => sh_anull dc_Lock_free_1 k) ?_
  refine sh_cput (K1 := (sh_u2 K 13 s (-1))) (L1 := L) (20 + s) 4 dc_Lock_free_2 (cw_ol (by omega) hk_s) rfl (by decide) fl_Lock_9 rfl rfl rfl rfl pd_LWorker rfl rfl (cq_Lock_13_null (by omega) hk_s) (fun i hi => cw_upI (by decide) hi) ?_
  refine sh_cp (fun w Z k => sh_aload_n dc_Lock_free_5 rfl rfl k) ?_
  refine sh_cp (fun w Z k => sh_iconst (v := 0) dc_Lock_free_6 (by decide) k) ?_
  refine sh_cput (K1 := (sh_u2 (sh_u2 K 13 s (-1)) 14 s 0)) (L1 := L) (20 + s) 5 dc_Lock_free_7 (cw_ol (by omega) ((congrArg cw_cl (sh_u2_row (by decide) _)).trans hk_s)) rfl (by decide) fl_Lock_29 rfl rfl rfl rfl pd_I rfl rfl (cq_Lock_14 (by omega) ((congrArg cw_cl (sh_u2_row (by decide) _)).trans hk_s)) (fun i hi => cw_upI (by decide) hi) ?_
  exact sh_ce (fun w => sh_return dc_Lock_free_10 rfl (by decide) (by decide))
theorem ct_Lock_take_1 {A : Nat → Nat} {K : sh_II} {L : sh_DD} {t : Nat} {s : Nat} {m : Int32} {e : Int32} (ht : t < 6) (hs : s < 8) (hk_s : cw_cl (K 12 s) = 4) : sh_cM A md_Lock_take [.ref (A (20 + s)), .ref (A (10 + t)), .int m, .int e] K L (.inl none) (sh_u2 (sh_u2 K 13 s (nI t)) 14 s ((K 14 s) + e)) L := by
  refine sh_cp (fun w Z k => sh_aload_n dc_Lock_take_0 rfl rfl k) ?_
  refine sh_cp (fun w Z k => sh_aload_n dc_Lock_take_1 rfl rfl k) ?_
  refine sh_cput (K1 := (sh_u2 K 13 s (nI t))) (L1 := L) (20 + s) 4 dc_Lock_take_2 (cw_ol (by omega) hk_s) rfl (by decide) fl_Lock_9 rfl rfl rfl rfl pd_LWorker rfl rfl (cq_Lock_13 (by omega) hk_s (by omega)) (fun i hi => cw_upI (by decide) hi) ?_
  refine sh_cp (fun w Z k => sh_aload_n dc_Lock_take_5 rfl rfl k) ?_
  refine sh_cp (fun w Z k => sh_dup dc_Lock_take_6 rfl k) ?_
  refine sh_cget (20 + s) 5 dc_Lock_take_7 (cw_ol (by omega) ((congrArg cw_cl (sh_u2_row (by decide) _)).trans hk_s)) rfl (by decide) fl_Lock_29 rfl rfl rfl rfl ?_
  refine sh_cti (show (sh_u2 K 13 s (nI t)) 14 s = K 14 s from (sh_u2_row (by decide) _)) ?_
  refine sh_cp (fun w Z k => sh_iload_n dc_Lock_take_10 rfl rfl k) ?_
  refine sh_cp (fun w Z k => sh_iadd dc_Lock_take_11 k) ?_
  refine sh_cput (K1 := (sh_u2 (sh_u2 K 13 s (nI t)) 14 s ((K 14 s) + e))) (L1 := L) (20 + s) 5 dc_Lock_take_12 (cw_ol (by omega) ((congrArg cw_cl (sh_u2_row (by decide) _)).trans hk_s)) rfl (by decide) fl_Lock_29 rfl rfl rfl rfl pd_I rfl rfl (cq_Lock_14 (by omega) ((congrArg cw_cl (sh_u2_row (by decide) _)).trans hk_s)) (fun i hi => cw_upI (by decide) hi) ?_
  exact sh_ce (fun w => sh_return dc_Lock_take_15 rfl (by decide) (by decide))
theorem ct_Lock_holdOf_1 {A : Nat → Nat} {K : sh_II} {L : sh_DD} {t : Nat} {s : Nat} (ht : t < 6) (hs : s < 8) (hk_s : cw_cl (K 12 s) = 4) (c0_1 : (K 13 s) = -1) : sh_cM A md_Lock_holdOf [.ref (A (20 + s)), .ref (A (10 + t))] K L (.inl (some (.int 0))) K L := by
  refine sh_cp (fun w Z k => sh_aload_n dc_Lock_holdOf_0 rfl rfl k) ?_
  refine sh_cget (20 + s) 4 dc_Lock_holdOf_1 (cw_ol (by omega) hk_s) rfl (by decide) fl_Lock_9 rfl rfl rfl rfl ?_
  refine sh_ctv (cw_rf_0 c0_1) ?_
  refine sh_cp (fun w Z k => sh_aload_n dc_Lock_holdOf_4 rfl rfl k) ?_
  refine sh_cp (fun w Z k => sh_acmp_ne (rx := none) (ry := (some (A (10 + t)))) (tgt := 15) dc_Lock_holdOf_5 (by decide) (fun _ => k) (fun z => absurd z (fun z => by cases z))) ?_
  refine sh_cp (fun w Z k => sh_iconst (v := 0) dc_Lock_holdOf_15 (by decide) k) ?_
  exact sh_ce (fun w => sh_ireturn dc_Lock_holdOf_16 rfl rfl (by decide) (by decide))
theorem ct_Lock_holdOf_2 {A : Nat → Nat} {K : sh_II} {L : sh_DD} {t : Nat} {s : Nat} {u13_1 : Nat} (ht : t < 6) (hs : s < 8) (hk_s : cw_cl (K 12 s) = 4) (hu13_1 : u13_1 < 6) (c1_1 : (K 13 s) = nI u13_1) (c2_5 : u13_1 = t) : sh_cM A md_Lock_holdOf [.ref (A (20 + s)), .ref (A (10 + t))] K L (.inl (some (.int (K 14 s)))) K L := by
  refine sh_cp (fun w Z k => sh_aload_n dc_Lock_holdOf_0 rfl rfl k) ?_
  refine sh_cget (20 + s) 4 dc_Lock_holdOf_1 (cw_ol (by omega) hk_s) rfl (by decide) fl_Lock_9 rfl rfl rfl rfl ?_
  refine sh_ctv (cw_rf_n c1_1 (by omega)) ?_
  refine sh_cp (fun w Z k => sh_aload_n dc_Lock_holdOf_4 rfl rfl k) ?_
  refine sh_cacmp_ne (tgt := 15) dc_Lock_holdOf_5 (by decide) (by rw [cw_ow (by omega)]; rfl) (by rw [cw_ow (by omega)]; rfl) (fun z => absurd (by omega) z) (fun _ => ?_)
  refine sh_cp (fun w Z k => sh_aload_n dc_Lock_holdOf_8 rfl rfl k) ?_
  refine sh_cget (20 + s) 5 dc_Lock_holdOf_9 (cw_ol (by omega) hk_s) rfl (by decide) fl_Lock_29 rfl rfl rfl rfl ?_
  refine sh_cp (fun w Z k => sh_goto_ (tgt := 16) dc_Lock_holdOf_12 (by decide) k) ?_
  exact sh_ce (fun w => sh_ireturn dc_Lock_holdOf_16 rfl rfl (by decide) (by decide))
theorem ct_Lock_holdOf_3 {A : Nat → Nat} {K : sh_II} {L : sh_DD} {t : Nat} {s : Nat} {u13_1 : Nat} (ht : t < 6) (hs : s < 8) (hk_s : cw_cl (K 12 s) = 4) (hu13_1 : u13_1 < 6) (c1_1 : (K 13 s) = nI u13_1) (c2_5 : ¬ u13_1 = t) : sh_cM A md_Lock_holdOf [.ref (A (20 + s)), .ref (A (10 + t))] K L (.inl (some (.int 0))) K L := by
  refine sh_cp (fun w Z k => sh_aload_n dc_Lock_holdOf_0 rfl rfl k) ?_
  refine sh_cget (20 + s) 4 dc_Lock_holdOf_1 (cw_ol (by omega) hk_s) rfl (by decide) fl_Lock_9 rfl rfl rfl rfl ?_
  refine sh_ctv (cw_rf_n c1_1 (by omega)) ?_
  refine sh_cp (fun w Z k => sh_aload_n dc_Lock_holdOf_4 rfl rfl k) ?_
  refine sh_cacmp_ne (tgt := 15) dc_Lock_holdOf_5 (by decide) (by rw [cw_ow (by omega)]; rfl) (by rw [cw_ow (by omega)]; rfl) (fun _ => ?_) (fun z => absurd z (by omega))
  refine sh_cp (fun w Z k => sh_iconst (v := 0) dc_Lock_holdOf_15 (by decide) k) ?_
  exact sh_ce (fun w => sh_ireturn dc_Lock_holdOf_16 rfl rfl (by decide) (by decide))
theorem ct_Hall_checkOwner_1 {A : Nat → Nat} {K : sh_II} {L : sh_DD} {t : Nat} {s : Nat} (ht : t < 6) (hs : s < 8) (hk_s : cw_cl (K 12 s) = 4) (c0_1 : (K 13 s) = -1) : sh_cM A md_Hall_checkOwner [.ref (A (10 + t)), .ref (A (20 + s))] K L (.inr 3) K L := by
  refine sh_cp (fun w Z k => sh_aload_n dc_Hall_checkOwner_0 rfl rfl k) ?_
  refine sh_cget (20 + s) 4 dc_Hall_checkOwner_1 (cw_ol (by omega) hk_s) rfl (by decide) fl_Hall_254 rfl rfl rfl rfl ?_
  refine sh_ctv (cw_rf_0 c0_1) ?_
  refine sh_cp (fun w Z k => sh_aload_n dc_Hall_checkOwner_4 rfl rfl k) ?_
  refine sh_cp (fun w Z k => sh_acmp_eq (rx := none) (ry := (some (A (10 + t)))) (tgt := 19) dc_Hall_checkOwner_5 (by decide) (fun z => absurd z (fun z => by cases z)) (fun _ => k)) ?_
  exact sh_ct (fun w => sh_thr (lx := 3) (tx := "the thread does not own the lock") dc_Hall_checkOwner_8 dc_Hall_checkOwner_11 (Or.inr ⟨dc_Hall_checkOwner_12, rfl⟩) dc_Hall_checkOwner_15 dc_Hall_checkOwner_18 lx_Hall_51_55 (by decide +kernel) rfl (by decide) (by decide) (by decide) (by decide))
theorem ct_Hall_checkOwner_2 {A : Nat → Nat} {K : sh_II} {L : sh_DD} {t : Nat} {s : Nat} {u13_1 : Nat} (ht : t < 6) (hs : s < 8) (hk_s : cw_cl (K 12 s) = 4) (hu13_1 : u13_1 < 6) (c1_1 : (K 13 s) = nI u13_1) (c2_5 : u13_1 = t) : sh_cM A md_Hall_checkOwner [.ref (A (10 + t)), .ref (A (20 + s))] K L (.inl none) K L := by
  refine sh_cp (fun w Z k => sh_aload_n dc_Hall_checkOwner_0 rfl rfl k) ?_
  refine sh_cget (20 + s) 4 dc_Hall_checkOwner_1 (cw_ol (by omega) hk_s) rfl (by decide) fl_Hall_254 rfl rfl rfl rfl ?_
  refine sh_ctv (cw_rf_n c1_1 (by omega)) ?_
  refine sh_cp (fun w Z k => sh_aload_n dc_Hall_checkOwner_4 rfl rfl k) ?_
  refine sh_cacmp_eq (tgt := 19) dc_Hall_checkOwner_5 (by decide) (by rw [cw_ow (by omega)]; rfl) (by rw [cw_ow (by omega)]; rfl) (fun _ => ?_) (fun z => absurd (by omega) z)
  exact sh_ce (fun w => sh_return dc_Hall_checkOwner_19 rfl (by decide) (by decide))
theorem ct_Hall_checkOwner_3 {A : Nat → Nat} {K : sh_II} {L : sh_DD} {t : Nat} {s : Nat} {u13_1 : Nat} (ht : t < 6) (hs : s < 8) (hk_s : cw_cl (K 12 s) = 4) (hu13_1 : u13_1 < 6) (c1_1 : (K 13 s) = nI u13_1) (c2_5 : ¬ u13_1 = t) : sh_cM A md_Hall_checkOwner [.ref (A (10 + t)), .ref (A (20 + s))] K L (.inr 3) K L := by
  refine sh_cp (fun w Z k => sh_aload_n dc_Hall_checkOwner_0 rfl rfl k) ?_
  refine sh_cget (20 + s) 4 dc_Hall_checkOwner_1 (cw_ol (by omega) hk_s) rfl (by decide) fl_Hall_254 rfl rfl rfl rfl ?_
  refine sh_ctv (cw_rf_n c1_1 (by omega)) ?_
  refine sh_cp (fun w Z k => sh_aload_n dc_Hall_checkOwner_4 rfl rfl k) ?_
  refine sh_cacmp_eq (tgt := 19) dc_Hall_checkOwner_5 (by decide) (by rw [cw_ow (by omega)]; rfl) (by rw [cw_ow (by omega)]; rfl) (fun z => absurd z (by omega)) (fun _ => ?_)
  exact sh_ct (fun w => sh_thr (lx := 3) (tx := "the thread does not own the lock") dc_Hall_checkOwner_8 dc_Hall_checkOwner_11 (Or.inr ⟨dc_Hall_checkOwner_12, rfl⟩) dc_Hall_checkOwner_15 dc_Hall_checkOwner_18 lx_Hall_51_55 (by decide +kernel) rfl (by decide) (by decide) (by decide) (by decide))
theorem ct_Lock_canTake_1 {A : Nat → Nat} {K : sh_II} {L : sh_DD} {t : Nat} {s : Nat} {m : Int32} (ht : t < 6) (hs : s < 8) (hk_s : cw_cl (K 12 s) = 4) (c0_1 : (K 13 s) = -1) : sh_cM A md_Lock_canTake [.ref (A (20 + s)), .ref (A (10 + t)), .int m] K L (.inl (some (.int 1))) K L := by
  refine sh_cp (fun w Z k => sh_aload_n dc_Lock_canTake_0 rfl rfl k) ?_
  refine sh_cget (20 + s) 4 dc_Lock_canTake_1 (cw_ol (by omega) hk_s) rfl (by decide) fl_Lock_9 rfl rfl rfl rfl ?_
  refine sh_ctv (cw_rf_0 c0_1) ?_
  refine sh_cp (fun w Z k => sh_ifnullN (tgt := 15) dc_Lock_canTake_4 (by decide) k) ?_
  refine sh_cp (fun w Z k => sh_iconst (v := 1) dc_Lock_canTake_15 (by decide) k) ?_
  refine sh_cp (fun w Z k => sh_goto_ (tgt := 20) dc_Lock_canTake_16 (by decide) k) ?_
  exact sh_ce (fun w => sh_ireturn dc_Lock_canTake_20 rfl rfl (by decide) (by decide))
theorem ct_Lock_canTake_2 {A : Nat → Nat} {K : sh_II} {L : sh_DD} {t : Nat} {s : Nat} {m : Int32} {u13_1 : Nat} (ht : t < 6) (hs : s < 8) (hk_s : cw_cl (K 12 s) = 4) (hu13_1 : u13_1 < 6) (c1_1 : (K 13 s) = nI u13_1) (c2_9 : (K 12 s) = 1) (c3_9 : u13_1 = t) : sh_cM A md_Lock_canTake [.ref (A (20 + s)), .ref (A (10 + t)), .int m] K L (.inl (some (.int 1))) K L := by
  refine sh_cp (fun w Z k => sh_aload_n dc_Lock_canTake_0 rfl rfl k) ?_
  refine sh_cget (20 + s) 4 dc_Lock_canTake_1 (cw_ol (by omega) hk_s) rfl (by decide) fl_Lock_9 rfl rfl rfl rfl ?_
  refine sh_ctv (cw_rf_n c1_1 (by omega)) ?_
  refine sh_cp (fun w Z k => sh_ifnull dc_Lock_canTake_4 k) ?_
  refine sh_cp (fun w Z k => sh_aload_n dc_Lock_canTake_7 rfl rfl k) ?_
  refine sh_cp (fun w Z k => sh_aload_n dc_Lock_canTake_8 rfl rfl k) ?_
  refine sh_ccall (fun w hw => sh_virt (As := [.ref (A (10 + t))]) dc_Lock_canTake_9 lm_Lock_isAgain ln_Lock_15 wd_556 wd_13 rfl rfl (Nat.le_of_ble_eq_true rfl) (hw _ _ (cw_ol (by omega) hk_s)) rfl) (ct_Lock_isAgain_2 (t := t) (s := s) (u13_9 := u13_1) (by omega) (by omega) hk_s c2_9 (by omega) c1_1 c3_9) ⟨(Nat.le_of_ble_eq_true rfl), (Nat.le_of_ble_eq_true rfl), (Nat.le_of_ble_eq_true rfl), (Nat.le_of_ble_eq_true rfl)⟩ ?_
  show sh_cW _ _ (_, _, [.int 1]) K L _ _ _ _ _
  refine sh_cp (fun w Z k => sh_if_eq (tgt := 19) dc_Lock_canTake_12 (by decide) (fun z => absurd z (by decide)) (fun _ => k)) ?_
  refine sh_cp (fun w Z k => sh_iconst (v := 1) dc_Lock_canTake_15 (by decide) k) ?_
  refine sh_cp (fun w Z k => sh_goto_ (tgt := 20) dc_Lock_canTake_16 (by decide) k) ?_
  exact sh_ce (fun w => sh_ireturn dc_Lock_canTake_20 rfl rfl (by decide) (by decide))
theorem ct_Lock_canTake_3 {A : Nat → Nat} {K : sh_II} {L : sh_DD} {t : Nat} {s : Nat} {m : Int32} {u13_1 : Nat} (ht : t < 6) (hs : s < 8) (hk_s : cw_cl (K 12 s) = 4) (hu13_1 : u13_1 < 6) (c1_1 : (K 13 s) = nI u13_1) (c2_9 : (K 12 s) = 1) (c3_9 : ¬ u13_1 = t) : sh_cM A md_Lock_canTake [.ref (A (20 + s)), .ref (A (10 + t)), .int m] K L (.inl (some (.int 0))) K L := by
  refine sh_cp (fun w Z k => sh_aload_n dc_Lock_canTake_0 rfl rfl k) ?_
  refine sh_cget (20 + s) 4 dc_Lock_canTake_1 (cw_ol (by omega) hk_s) rfl (by decide) fl_Lock_9 rfl rfl rfl rfl ?_
  refine sh_ctv (cw_rf_n c1_1 (by omega)) ?_
  refine sh_cp (fun w Z k => sh_ifnull dc_Lock_canTake_4 k) ?_
  refine sh_cp (fun w Z k => sh_aload_n dc_Lock_canTake_7 rfl rfl k) ?_
  refine sh_cp (fun w Z k => sh_aload_n dc_Lock_canTake_8 rfl rfl k) ?_
  refine sh_ccall (fun w hw => sh_virt (As := [.ref (A (10 + t))]) dc_Lock_canTake_9 lm_Lock_isAgain ln_Lock_15 wd_556 wd_13 rfl rfl (Nat.le_of_ble_eq_true rfl) (hw _ _ (cw_ol (by omega) hk_s)) rfl) (ct_Lock_isAgain_3 (t := t) (s := s) (u13_9 := u13_1) (by omega) (by omega) hk_s c2_9 (by omega) c1_1 c3_9) ⟨(Nat.le_of_ble_eq_true rfl), (Nat.le_of_ble_eq_true rfl), (Nat.le_of_ble_eq_true rfl), (Nat.le_of_ble_eq_true rfl)⟩ ?_
  show sh_cW _ _ (_, _, [.int 0]) K L _ _ _ _ _
  refine sh_cp (fun w Z k => sh_if_eq (tgt := 19) dc_Lock_canTake_12 (by decide) (fun _ => k) (fun z => absurd (by decide) z)) ?_
  refine sh_cp (fun w Z k => sh_iconst (v := 0) dc_Lock_canTake_19 (by decide) k) ?_
  exact sh_ce (fun w => sh_ireturn dc_Lock_canTake_20 rfl rfl (by decide) (by decide))
theorem ct_Lock_canTake_4 {A : Nat → Nat} {K : sh_II} {L : sh_DD} {t : Nat} {s : Nat} {m : Int32} {u13_1 : Nat} (ht : t < 6) (hs : s < 8) (hk_s : cw_cl (K 12 s) = 4) (hu13_1 : u13_1 < 6) (c1_1 : (K 13 s) = nI u13_1) (c2_9 : ¬ (K 12 s) = 1) : sh_cM A md_Lock_canTake [.ref (A (20 + s)), .ref (A (10 + t)), .int m] K L (.inl (some (.int 0))) K L := by
  refine sh_cp (fun w Z k => sh_aload_n dc_Lock_canTake_0 rfl rfl k) ?_
  refine sh_cget (20 + s) 4 dc_Lock_canTake_1 (cw_ol (by omega) hk_s) rfl (by decide) fl_Lock_9 rfl rfl rfl rfl ?_
  refine sh_ctv (cw_rf_n c1_1 (by omega)) ?_
  refine sh_cp (fun w Z k => sh_ifnull dc_Lock_canTake_4 k) ?_
  refine sh_cp (fun w Z k => sh_aload_n dc_Lock_canTake_7 rfl rfl k) ?_
  refine sh_cp (fun w Z k => sh_aload_n dc_Lock_canTake_8 rfl rfl k) ?_
  refine sh_ccall (fun w hw => sh_virt (As := [.ref (A (10 + t))]) dc_Lock_canTake_9 lm_Lock_isAgain ln_Lock_15 wd_556 wd_13 rfl rfl (Nat.le_of_ble_eq_true rfl) (hw _ _ (cw_ol (by omega) hk_s)) rfl) (ct_Lock_isAgain_4 (t := t) (s := s) (by omega) (by omega) hk_s c2_9) ⟨(Nat.le_of_ble_eq_true rfl), (Nat.le_of_ble_eq_true rfl), (Nat.le_of_ble_eq_true rfl), (Nat.le_of_ble_eq_true rfl)⟩ ?_
  show sh_cW _ _ (_, _, [.int 0]) K L _ _ _ _ _
  refine sh_cp (fun w Z k => sh_if_eq (tgt := 19) dc_Lock_canTake_12 (by decide) (fun _ => k) (fun z => absurd (by decide) z)) ?_
  refine sh_cp (fun w Z k => sh_iconst (v := 0) dc_Lock_canTake_19 (by decide) k) ?_
  exact sh_ce (fun w => sh_ireturn dc_Lock_canTake_20 rfl rfl (by decide) (by decide))
theorem ct_Lock_mustQueue_1 {A : Nat → Nat} {K : sh_II} {L : sh_DD} {t : Nat} {s : Nat} {m : Int32} (ht : t < 6) (hs : s < 8) (hk_s : cw_cl (K 12 s) = 4) (c0_7 : (K 19 s) ≤ 0) : sh_cM A md_Lock_mustQueue [.ref (A (20 + s)), .ref (A (10 + t)), .int m] K L (.inl (some (.int 0))) K L := by
  refine sh_cp (fun w Z k => sh_aload_n dc_Lock_mustQueue_0 rfl rfl k) ?_
  refine sh_cget (20 + s) 1 dc_Lock_mustQueue_1 (cw_ol (by omega) hk_s) rfl (by decide) fl_Lock_19 rfl rfl rfl rfl ?_
  refine sh_ccall (fun w hw => sh_virt (As := []) dc_Lock_mustQueue_4 lm_Waiters_size ln_Lock_23 wd_552 wd_12 rfl rfl (Nat.le_of_ble_eq_true rfl) (hw _ _ (cw_ot (by omega) (cw_nz hk_s (by decide)))) rfl) (ct_Waiters_size_1 (s := s) (by omega) (cw_nz hk_s (by decide))) ⟨(Nat.le_of_ble_eq_true rfl), (Nat.le_of_ble_eq_true rfl), (Nat.le_of_ble_eq_true rfl), (Nat.le_of_ble_eq_true rfl)⟩ ?_
  show sh_cW _ _ (_, _, [.int (K 19 s)]) K L _ _ _ _ _
  refine sh_cp (fun w Z k => sh_if_le (tgt := 22) dc_Lock_mustQueue_7 (by decide) (fun _ => k) (fun z => absurd c0_7 z)) ?_
  refine sh_cp (fun w Z k => sh_iconst (v := 0) dc_Lock_mustQueue_22 (by decide) k) ?_
  exact sh_ce (fun w => sh_ireturn dc_Lock_mustQueue_23 rfl rfl (by decide) (by decide))
theorem ct_Lock_mustQueue_2 {A : Nat → Nat} {K : sh_II} {L : sh_DD} {t : Nat} {s : Nat} {m : Int32} (ht : t < 6) (hs : s < 8) (hk_s : cw_cl (K 12 s) = 4) (c0_7 : ¬ (K 19 s) ≤ 0) (c1_12 : (K 12 s) = 1) (c2_12 : (K 13 s) = -1) : sh_cM A md_Lock_mustQueue [.ref (A (20 + s)), .ref (A (10 + t)), .int m] K L (.inl (some (.int 1))) K L := by
  refine sh_cp (fun w Z k => sh_aload_n dc_Lock_mustQueue_0 rfl rfl k) ?_
  refine sh_cget (20 + s) 1 dc_Lock_mustQueue_1 (cw_ol (by omega) hk_s) rfl (by decide) fl_Lock_19 rfl rfl rfl rfl ?_
  refine sh_ccall (fun w hw => sh_virt (As := []) dc_Lock_mustQueue_4 lm_Waiters_size ln_Lock_23 wd_552 wd_12 rfl rfl (Nat.le_of_ble_eq_true rfl) (hw _ _ (cw_ot (by omega) (cw_nz hk_s (by decide)))) rfl) (ct_Waiters_size_1 (s := s) (by omega) (cw_nz hk_s (by decide))) ⟨(Nat.le_of_ble_eq_true rfl), (Nat.le_of_ble_eq_true rfl), (Nat.le_of_ble_eq_true rfl), (Nat.le_of_ble_eq_true rfl)⟩ ?_
  show sh_cW _ _ (_, _, [.int (K 19 s)]) K L _ _ _ _ _
  refine sh_cp (fun w Z k => sh_if_le (tgt := 22) dc_Lock_mustQueue_7 (by decide) (fun z => absurd z c0_7) (fun _ => k)) ?_
  refine sh_cp (fun w Z k => sh_aload_n dc_Lock_mustQueue_10 rfl rfl k) ?_
  refine sh_cp (fun w Z k => sh_aload_n dc_Lock_mustQueue_11 rfl rfl k) ?_
  refine sh_ccall (fun w hw => sh_virt (As := [.ref (A (10 + t))]) dc_Lock_mustQueue_12 lm_Lock_isAgain ln_Lock_15 wd_556 wd_13 rfl rfl (Nat.le_of_ble_eq_true rfl) (hw _ _ (cw_ol (by omega) hk_s)) rfl) (ct_Lock_isAgain_1 (t := t) (s := s) (by omega) (by omega) hk_s c1_12 c2_12) ⟨(Nat.le_of_ble_eq_true rfl), (Nat.le_of_ble_eq_true rfl), (Nat.le_of_ble_eq_true rfl), (Nat.le_of_ble_eq_true rfl)⟩ ?_
  show sh_cW _ _ (_, _, [.int 0]) K L _ _ _ _ _
  refine sh_cp (fun w Z k => sh_if_ne (tgt := 22) dc_Lock_mustQueue_15 (by decide) (fun z => absurd (by decide) z) (fun _ => k)) ?_
  refine sh_cp (fun w Z k => sh_iconst (v := 1) dc_Lock_mustQueue_18 (by decide) k) ?_
  refine sh_cp (fun w Z k => sh_goto_ (tgt := 23) dc_Lock_mustQueue_19 (by decide) k) ?_
  exact sh_ce (fun w => sh_ireturn dc_Lock_mustQueue_23 rfl rfl (by decide) (by decide))
theorem ct_Lock_mustQueue_3 {A : Nat → Nat} {K : sh_II} {L : sh_DD} {t : Nat} {s : Nat} {m : Int32} {u13_12 : Nat} (ht : t < 6) (hs : s < 8) (hk_s : cw_cl (K 12 s) = 4) (c0_7 : ¬ (K 19 s) ≤ 0) (c1_12 : (K 12 s) = 1) (hu13_12 : u13_12 < 6) (c3_12 : (K 13 s) = nI u13_12) (c4_12 : u13_12 = t) : sh_cM A md_Lock_mustQueue [.ref (A (20 + s)), .ref (A (10 + t)), .int m] K L (.inl (some (.int 0))) K L := by
  refine sh_cp (fun w Z k => sh_aload_n dc_Lock_mustQueue_0 rfl rfl k) ?_
  refine sh_cget (20 + s) 1 dc_Lock_mustQueue_1 (cw_ol (by omega) hk_s) rfl (by decide) fl_Lock_19 rfl rfl rfl rfl ?_
  refine sh_ccall (fun w hw => sh_virt (As := []) dc_Lock_mustQueue_4 lm_Waiters_size ln_Lock_23 wd_552 wd_12 rfl rfl (Nat.le_of_ble_eq_true rfl) (hw _ _ (cw_ot (by omega) (cw_nz hk_s (by decide)))) rfl) (ct_Waiters_size_1 (s := s) (by omega) (cw_nz hk_s (by decide))) ⟨(Nat.le_of_ble_eq_true rfl), (Nat.le_of_ble_eq_true rfl), (Nat.le_of_ble_eq_true rfl), (Nat.le_of_ble_eq_true rfl)⟩ ?_
  show sh_cW _ _ (_, _, [.int (K 19 s)]) K L _ _ _ _ _
  refine sh_cp (fun w Z k => sh_if_le (tgt := 22) dc_Lock_mustQueue_7 (by decide) (fun z => absurd z c0_7) (fun _ => k)) ?_
  refine sh_cp (fun w Z k => sh_aload_n dc_Lock_mustQueue_10 rfl rfl k) ?_
  refine sh_cp (fun w Z k => sh_aload_n dc_Lock_mustQueue_11 rfl rfl k) ?_
  refine sh_ccall (fun w hw => sh_virt (As := [.ref (A (10 + t))]) dc_Lock_mustQueue_12 lm_Lock_isAgain ln_Lock_15 wd_556 wd_13 rfl rfl (Nat.le_of_ble_eq_true rfl) (hw _ _ (cw_ol (by omega) hk_s)) rfl) (ct_Lock_isAgain_2 (t := t) (s := s) (u13_9 := u13_12) (by omega) (by omega) hk_s c1_12 (by omega) c3_12 c4_12) ⟨(Nat.le_of_ble_eq_true rfl), (Nat.le_of_ble_eq_true rfl), (Nat.le_of_ble_eq_true rfl), (Nat.le_of_ble_eq_true rfl)⟩ ?_
  show sh_cW _ _ (_, _, [.int 1]) K L _ _ _ _ _
  refine sh_cp (fun w Z k => sh_if_ne (tgt := 22) dc_Lock_mustQueue_15 (by decide) (fun _ => k) (fun z => absurd z (by decide))) ?_
  refine sh_cp (fun w Z k => sh_iconst (v := 0) dc_Lock_mustQueue_22 (by decide) k) ?_
  exact sh_ce (fun w => sh_ireturn dc_Lock_mustQueue_23 rfl rfl (by decide) (by decide))
theorem ct_Lock_mustQueue_4 {A : Nat → Nat} {K : sh_II} {L : sh_DD} {t : Nat} {s : Nat} {m : Int32} {u13_12 : Nat} (ht : t < 6) (hs : s < 8) (hk_s : cw_cl (K 12 s) = 4) (c0_7 : ¬ (K 19 s) ≤ 0) (c1_12 : (K 12 s) = 1) (hu13_12 : u13_12 < 6) (c3_12 : (K 13 s) = nI u13_12) (c4_12 : ¬ u13_12 = t) : sh_cM A md_Lock_mustQueue [.ref (A (20 + s)), .ref (A (10 + t)), .int m] K L (.inl (some (.int 1))) K L := by
  refine sh_cp (fun w Z k => sh_aload_n dc_Lock_mustQueue_0 rfl rfl k) ?_
  refine sh_cget (20 + s) 1 dc_Lock_mustQueue_1 (cw_ol (by omega) hk_s) rfl (by decide) fl_Lock_19 rfl rfl rfl rfl ?_
  refine sh_ccall (fun w hw => sh_virt (As := []) dc_Lock_mustQueue_4 lm_Waiters_size ln_Lock_23 wd_552 wd_12 rfl rfl (Nat.le_of_ble_eq_true rfl) (hw _ _ (cw_ot (by omega) (cw_nz hk_s (by decide)))) rfl) (ct_Waiters_size_1 (s := s) (by omega) (cw_nz hk_s (by decide))) ⟨(Nat.le_of_ble_eq_true rfl), (Nat.le_of_ble_eq_true rfl), (Nat.le_of_ble_eq_true rfl), (Nat.le_of_ble_eq_true rfl)⟩ ?_
  show sh_cW _ _ (_, _, [.int (K 19 s)]) K L _ _ _ _ _
  refine sh_cp (fun w Z k => sh_if_le (tgt := 22) dc_Lock_mustQueue_7 (by decide) (fun z => absurd z c0_7) (fun _ => k)) ?_
  refine sh_cp (fun w Z k => sh_aload_n dc_Lock_mustQueue_10 rfl rfl k) ?_
  refine sh_cp (fun w Z k => sh_aload_n dc_Lock_mustQueue_11 rfl rfl k) ?_
  refine sh_ccall (fun w hw => sh_virt (As := [.ref (A (10 + t))]) dc_Lock_mustQueue_12 lm_Lock_isAgain ln_Lock_15 wd_556 wd_13 rfl rfl (Nat.le_of_ble_eq_true rfl) (hw _ _ (cw_ol (by omega) hk_s)) rfl) (ct_Lock_isAgain_3 (t := t) (s := s) (u13_9 := u13_12) (by omega) (by omega) hk_s c1_12 (by omega) c3_12 c4_12) ⟨(Nat.le_of_ble_eq_true rfl), (Nat.le_of_ble_eq_true rfl), (Nat.le_of_ble_eq_true rfl), (Nat.le_of_ble_eq_true rfl)⟩ ?_
  show sh_cW _ _ (_, _, [.int 0]) K L _ _ _ _ _
  refine sh_cp (fun w Z k => sh_if_ne (tgt := 22) dc_Lock_mustQueue_15 (by decide) (fun z => absurd (by decide) z) (fun _ => k)) ?_
  refine sh_cp (fun w Z k => sh_iconst (v := 1) dc_Lock_mustQueue_18 (by decide) k) ?_
  refine sh_cp (fun w Z k => sh_goto_ (tgt := 23) dc_Lock_mustQueue_19 (by decide) k) ?_
  exact sh_ce (fun w => sh_ireturn dc_Lock_mustQueue_23 rfl rfl (by decide) (by decide))
theorem ct_Lock_mustQueue_5 {A : Nat → Nat} {K : sh_II} {L : sh_DD} {t : Nat} {s : Nat} {m : Int32} (ht : t < 6) (hs : s < 8) (hk_s : cw_cl (K 12 s) = 4) (c0_7 : ¬ (K 19 s) ≤ 0) (c1_12 : ¬ (K 12 s) = 1) : sh_cM A md_Lock_mustQueue [.ref (A (20 + s)), .ref (A (10 + t)), .int m] K L (.inl (some (.int 1))) K L := by
  refine sh_cp (fun w Z k => sh_aload_n dc_Lock_mustQueue_0 rfl rfl k) ?_
  refine sh_cget (20 + s) 1 dc_Lock_mustQueue_1 (cw_ol (by omega) hk_s) rfl (by decide) fl_Lock_19 rfl rfl rfl rfl ?_
  refine sh_ccall (fun w hw => sh_virt (As := []) dc_Lock_mustQueue_4 lm_Waiters_size ln_Lock_23 wd_552 wd_12 rfl rfl (Nat.le_of_ble_eq_true rfl) (hw _ _ (cw_ot (by omega) (cw_nz hk_s (by decide)))) rfl) (ct_Waiters_size_1 (s := s) (by omega) (cw_nz hk_s (by decide))) ⟨(Nat.le_of_ble_eq_true rfl), (Nat.le_of_ble_eq_true rfl), (Nat.le_of_ble_eq_true rfl), (Nat.le_of_ble_eq_true rfl)⟩ ?_
  show sh_cW _ _ (_, _, [.int (K 19 s)]) K L _ _ _ _ _
  refine sh_cp (fun w Z k => sh_if_le (tgt := 22) dc_Lock_mustQueue_7 (by decide) (fun z => absurd z c0_7) (fun _ => k)) ?_
  refine sh_cp (fun w Z k => sh_aload_n dc_Lock_mustQueue_10 rfl rfl k) ?_
  refine sh_cp (fun w Z k => sh_aload_n dc_Lock_mustQueue_11 rfl rfl k) ?_
  refine sh_ccall (fun w hw => sh_virt (As := [.ref (A (10 + t))]) dc_Lock_mustQueue_12 lm_Lock_isAgain ln_Lock_15 wd_556 wd_13 rfl rfl (Nat.le_of_ble_eq_true rfl) (hw _ _ (cw_ol (by omega) hk_s)) rfl) (ct_Lock_isAgain_4 (t := t) (s := s) (by omega) (by omega) hk_s c1_12) ⟨(Nat.le_of_ble_eq_true rfl), (Nat.le_of_ble_eq_true rfl), (Nat.le_of_ble_eq_true rfl), (Nat.le_of_ble_eq_true rfl)⟩ ?_
  show sh_cW _ _ (_, _, [.int 0]) K L _ _ _ _ _
  refine sh_cp (fun w Z k => sh_if_ne (tgt := 22) dc_Lock_mustQueue_15 (by decide) (fun z => absurd (by decide) z) (fun _ => k)) ?_
  refine sh_cp (fun w Z k => sh_iconst (v := 1) dc_Lock_mustQueue_18 (by decide) k) ?_
  refine sh_cp (fun w Z k => sh_goto_ (tgt := 23) dc_Lock_mustQueue_19 (by decide) k) ?_
  exact sh_ce (fun w => sh_ireturn dc_Lock_mustQueue_23 rfl rfl (by decide) (by decide))
theorem ct_Lock_giveBack_1 {A : Nat → Nat} {K : sh_II} {L : sh_DD} {t : Nat} {s : Nat} {m : Int32} (ht : t < 6) (hs : s < 8) (hk_s : cw_cl (K 12 s) = 4) (c0_2 : (K 13 s) = -1) : sh_cM A md_Lock_giveBack [.ref (A (20 + s)), .ref (A (10 + t)), .int m] K L (.inr 3) K L := by
  refine sh_cp (fun w Z k => sh_aload_n dc_Lock_giveBack_0 rfl rfl k) ?_
  refine sh_cp (fun w Z k => sh_aload_n dc_Lock_giveBack_1 rfl rfl k) ?_
  exact sh_ccallT (fun w hw => sh_stat (As := [.ref (A (10 + t)), .ref (A (20 + s))]) dc_Lock_giveBack_2 lm_Hall_checkOwner ln_Lock_33 wd_639 wd_49 rfl rfl (Nat.le_of_ble_eq_true rfl)) (ct_Hall_checkOwner_1 (t := t) (s := s) (by omega) (by omega) hk_s c0_2) ⟨(Nat.le_of_ble_eq_true rfl), (Nat.le_of_ble_eq_true rfl), (Nat.le_of_ble_eq_true rfl), (Nat.le_of_ble_eq_true rfl)⟩ rfl
theorem ct_Lock_giveBack_2 {A : Nat → Nat} {K : sh_II} {L : sh_DD} {t : Nat} {s : Nat} {m : Int32} {u13_2 : Nat} (ht : t < 6) (hs : s < 8) (hk_s : cw_cl (K 12 s) = 4) (hu13_2 : u13_2 < 6) (c1_2 : (K 13 s) = nI u13_2) (c2_2 : u13_2 = t) (c3_19 : 0 < ((K 14 s) - 1)) : sh_cM A md_Lock_giveBack [.ref (A (20 + s)), .ref (A (10 + t)), .int m] K L (.inl none) (sh_u2 K 14 s ((K 14 s) - 1)) L := by
  refine sh_cp (fun w Z k => sh_aload_n dc_Lock_giveBack_0 rfl rfl k) ?_
  refine sh_cp (fun w Z k => sh_aload_n dc_Lock_giveBack_1 rfl rfl k) ?_
  refine sh_ccall (fun w hw => sh_stat (As := [.ref (A (10 + t)), .ref (A (20 + s))]) dc_Lock_giveBack_2 lm_Hall_checkOwner ln_Lock_33 wd_639 wd_49 rfl rfl (Nat.le_of_ble_eq_true rfl)) (ct_Hall_checkOwner_2 (t := t) (s := s) (u13_1 := u13_2) (by omega) (by omega) hk_s (by omega) c1_2 c2_2) ⟨(Nat.le_of_ble_eq_true rfl), (Nat.le_of_ble_eq_true rfl), (Nat.le_of_ble_eq_true rfl), (Nat.le_of_ble_eq_true rfl)⟩ ?_
  show sh_cW _ _ (_, _, []) K L _ _ _ _ _
  refine sh_cp (fun w Z k => sh_aload_n dc_Lock_giveBack_5 rfl rfl k) ?_
  refine sh_cp (fun w Z k => sh_dup dc_Lock_giveBack_6 rfl k) ?_
  refine sh_cget (20 + s) 5 dc_Lock_giveBack_7 (cw_ol (by omega) hk_s) rfl (by decide) fl_Lock_29 rfl rfl rfl rfl ?_
  refine sh_cp (fun w Z k => sh_iconst (v := 1) dc_Lock_giveBack_10 (by decide) k) ?_
  refine sh_cp (fun w Z k => sh_isub dc_Lock_giveBack_11 k) ?_
  refine sh_cput (K1 := (sh_u2 K 14 s ((K 14 s) - 1))) (L1 := L) (20 + s) 5 dc_Lock_giveBack_12 (cw_ol (by omega) hk_s) rfl (by decide) fl_Lock_29 rfl rfl rfl rfl pd_I rfl rfl (cq_Lock_14 (by omega) hk_s) (fun i hi => cw_upI (by decide) hi) ?_
  refine sh_cp (fun w Z k => sh_aload_n dc_Lock_giveBack_15 rfl rfl k) ?_
  refine sh_cget (20 + s) 5 dc_Lock_giveBack_16 (cw_ol (by omega) ((congrArg cw_cl (sh_u2_row (by decide) _)).trans hk_s)) rfl (by decide) fl_Lock_29 rfl rfl rfl rfl ?_
  refine sh_cti (show (sh_u2 K 14 s ((K 14 s) - 1)) 14 s = (K 14 s) - 1 from (sh_u2_eq _ _ _ _)) ?_
  refine sh_cp (fun w Z k => sh_if_gt (tgt := 26) dc_Lock_giveBack_19 (by decide) (fun _ => k) (fun z => absurd c3_19 z)) ?_
  exact sh_ce (fun w => sh_return dc_Lock_giveBack_26 rfl (by decide) (by decide))
theorem ct_Lock_giveBack_3 {A : Nat → Nat} {K : sh_II} {L : sh_DD} {t : Nat} {s : Nat} {m : Int32} {u13_2 : Nat} (ht : t < 6) (hs : s < 8) (hk_s : cw_cl (K 12 s) = 4) (hu13_2 : u13_2 < 6) (c1_2 : (K 13 s) = nI u13_2) (c2_2 : u13_2 = t) (c3_19 : ¬ 0 < ((K 14 s) - 1)) : sh_cM A md_Lock_giveBack [.ref (A (20 + s)), .ref (A (10 + t)), .int m] K L (.inl none) (sh_u2 (sh_u2 (sh_u2 K 14 s ((K 14 s) - 1)) 13 s (-1)) 14 s 0) L := by
  refine sh_cp (fun w Z k => sh_aload_n dc_Lock_giveBack_0 rfl rfl k) ?_
  refine sh_cp (fun w Z k => sh_aload_n dc_Lock_giveBack_1 rfl rfl k) ?_
  refine sh_ccall (fun w hw => sh_stat (As := [.ref (A (10 + t)), .ref (A (20 + s))]) dc_Lock_giveBack_2 lm_Hall_checkOwner ln_Lock_33 wd_639 wd_49 rfl rfl (Nat.le_of_ble_eq_true rfl)) (ct_Hall_checkOwner_2 (t := t) (s := s) (u13_1 := u13_2) (by omega) (by omega) hk_s (by omega) c1_2 c2_2) ⟨(Nat.le_of_ble_eq_true rfl), (Nat.le_of_ble_eq_true rfl), (Nat.le_of_ble_eq_true rfl), (Nat.le_of_ble_eq_true rfl)⟩ ?_
  show sh_cW _ _ (_, _, []) K L _ _ _ _ _
  refine sh_cp (fun w Z k => sh_aload_n dc_Lock_giveBack_5 rfl rfl k) ?_
  refine sh_cp (fun w Z k => sh_dup dc_Lock_giveBack_6 rfl k) ?_
  refine sh_cget (20 + s) 5 dc_Lock_giveBack_7 (cw_ol (by omega) hk_s) rfl (by decide) fl_Lock_29 rfl rfl rfl rfl ?_
  refine sh_cp (fun w Z k => sh_iconst (v := 1) dc_Lock_giveBack_10 (by decide) k) ?_
  refine sh_cp (fun w Z k => sh_isub dc_Lock_giveBack_11 k) ?_
  refine sh_cput (K1 := (sh_u2 K 14 s ((K 14 s) - 1))) (L1 := L) (20 + s) 5 dc_Lock_giveBack_12 (cw_ol (by omega) hk_s) rfl (by decide) fl_Lock_29 rfl rfl rfl rfl pd_I rfl rfl (cq_Lock_14 (by omega) hk_s) (fun i hi => cw_upI (by decide) hi) ?_
  refine sh_cp (fun w Z k => sh_aload_n dc_Lock_giveBack_15 rfl rfl k) ?_
  refine sh_cget (20 + s) 5 dc_Lock_giveBack_16 (cw_ol (by omega) ((congrArg cw_cl (sh_u2_row (by decide) _)).trans hk_s)) rfl (by decide) fl_Lock_29 rfl rfl rfl rfl ?_
  refine sh_cti (show (sh_u2 K 14 s ((K 14 s) - 1)) 14 s = (K 14 s) - 1 from (sh_u2_eq _ _ _ _)) ?_
  refine sh_cp (fun w Z k => sh_if_gt (tgt := 26) dc_Lock_giveBack_19 (by decide) (fun z => absurd z c3_19) (fun _ => k)) ?_
  refine sh_cp (fun w Z k => sh_aload_n dc_Lock_giveBack_22 rfl rfl k) ?_
  refine sh_ccall (fun w hw => sh_virt (As := []) dc_Lock_giveBack_23 lm_Lock_free ln_Lock_37 wd_644 wd_18 rfl rfl (Nat.le_of_ble_eq_true rfl) (hw _ _ (cw_ol (by omega) ((congrArg cw_cl (sh_u2_row (by decide) _)).trans hk_s))) rfl) (ct_Lock_free_1 (s := s) (by omega) ((congrArg cw_cl (sh_u2_row (by decide) _)).trans hk_s)) ⟨(Nat.le_of_ble_eq_true rfl), (Nat.le_of_ble_eq_true rfl), (Nat.le_of_ble_eq_true rfl), (Nat.le_of_ble_eq_true rfl)⟩ ?_
  show sh_cW _ _ (_, _, []) (sh_u2 (sh_u2 (sh_u2 K 14 s ((K 14 s) - 1)) 13 s (-1)) 14 s 0) L _ _ _ _ _
  exact sh_ce (fun w => sh_return dc_Lock_giveBack_26 rfl (by decide) (by decide))
theorem ct_Lock_giveBack_4 {A : Nat → Nat} {K : sh_II} {L : sh_DD} {t : Nat} {s : Nat} {m : Int32} {u13_2 : Nat} (ht : t < 6) (hs : s < 8) (hk_s : cw_cl (K 12 s) = 4) (hu13_2 : u13_2 < 6) (c1_2 : (K 13 s) = nI u13_2) (c2_2 : ¬ u13_2 = t) : sh_cM A md_Lock_giveBack [.ref (A (20 + s)), .ref (A (10 + t)), .int m] K L (.inr 3) K L := by
  refine sh_cp (fun w Z k => sh_aload_n dc_Lock_giveBack_0 rfl rfl k) ?_
  refine sh_cp (fun w Z k => sh_aload_n dc_Lock_giveBack_1 rfl rfl k) ?_
  exact sh_ccallT (fun w hw => sh_stat (As := [.ref (A (10 + t)), .ref (A (20 + s))]) dc_Lock_giveBack_2 lm_Hall_checkOwner ln_Lock_33 wd_639 wd_49 rfl rfl (Nat.le_of_ble_eq_true rfl)) (ct_Hall_checkOwner_3 (t := t) (s := s) (u13_1 := u13_2) (by omega) (by omega) hk_s (by omega) c1_2 c2_2) ⟨(Nat.le_of_ble_eq_true rfl), (Nat.le_of_ble_eq_true rfl), (Nat.le_of_ble_eq_true rfl), (Nat.le_of_ble_eq_true rfl)⟩ rfl
theorem ct_Semaphore_canTake_1 {A : Nat → Nat} {K : sh_II} {L : sh_DD} {t : Nat} {s : Nat} {m : Int32} (ht : t < 6) (hs : s < 8) (hk_s : cw_cl (K 12 s) = 5) (c0_4 : (K 15 s) ≤ 0) : sh_cM A md_Semaphore_canTake [.ref (A (20 + s)), .ref (A (10 + t)), .int m] K L (.inl (some (.int 0))) K L := by
  refine sh_cp (fun w Z k => sh_aload_n dc_Semaphore_canTake_0 rfl rfl k) ?_
  refine sh_cget (20 + s) 4 dc_Semaphore_canTake_1 (cw_oe (by omega) hk_s) rfl (by decide) fl_Semaphore_9 rfl rfl rfl rfl ?_
  refine sh_cp (fun w Z k => sh_if_le (tgt := 11) dc_Semaphore_canTake_4 (by decide) (fun _ => k) (fun z => absurd c0_4 z)) ?_
  refine sh_cp (fun w Z k => sh_iconst (v := 0) dc_Semaphore_canTake_11 (by decide) k) ?_
  exact sh_ce (fun w => sh_ireturn dc_Semaphore_canTake_12 rfl rfl (by decide) (by decide))
theorem ct_Semaphore_canTake_2 {A : Nat → Nat} {K : sh_II} {L : sh_DD} {t : Nat} {s : Nat} {m : Int32} (ht : t < 6) (hs : s < 8) (hk_s : cw_cl (K 12 s) = 5) (c0_4 : ¬ (K 15 s) ≤ 0) : sh_cM A md_Semaphore_canTake [.ref (A (20 + s)), .ref (A (10 + t)), .int m] K L (.inl (some (.int 1))) K L := by
  refine sh_cp (fun w Z k => sh_aload_n dc_Semaphore_canTake_0 rfl rfl k) ?_
  refine sh_cget (20 + s) 4 dc_Semaphore_canTake_1 (cw_oe (by omega) hk_s) rfl (by decide) fl_Semaphore_9 rfl rfl rfl rfl ?_
  refine sh_cp (fun w Z k => sh_if_le (tgt := 11) dc_Semaphore_canTake_4 (by decide) (fun z => absurd z c0_4) (fun _ => k)) ?_
  refine sh_cp (fun w Z k => sh_iconst (v := 1) dc_Semaphore_canTake_7 (by decide) k) ?_
  refine sh_cp (fun w Z k => sh_goto_ (tgt := 12) dc_Semaphore_canTake_8 (by decide) k) ?_
  exact sh_ce (fun w => sh_ireturn dc_Semaphore_canTake_12 rfl rfl (by decide) (by decide))
theorem ct_Semaphore_mustQueue_1 {A : Nat → Nat} {K : sh_II} {L : sh_DD} {t : Nat} {s : Nat} {m : Int32} (ht : t < 6) (hs : s < 8) (hk_s : cw_cl (K 12 s) = 5) (c0_7 : (K 19 s) ≤ 0) : sh_cM A md_Semaphore_mustQueue [.ref (A (20 + s)), .ref (A (10 + t)), .int m] K L (.inl (some (.int 0))) K L := by
  refine sh_cp (fun w Z k => sh_aload_n dc_Semaphore_mustQueue_0 rfl rfl k) ?_
  refine sh_cget (20 + s) 1 dc_Semaphore_mustQueue_1 (cw_oe (by omega) hk_s) rfl (by decide) fl_Semaphore_15 rfl rfl rfl rfl ?_
  refine sh_ccall (fun w hw => sh_virt (As := []) dc_Semaphore_mustQueue_4 lm_Waiters_size ln_Semaphore_19 wd_552 wd_12 rfl rfl (Nat.le_of_ble_eq_true rfl) (hw _ _ (cw_ot (by omega) (cw_nz hk_s (by decide)))) rfl) (ct_Waiters_size_1 (s := s) (by omega) (cw_nz hk_s (by decide))) ⟨(Nat.le_of_ble_eq_true rfl), (Nat.le_of_ble_eq_true rfl), (Nat.le_of_ble_eq_true rfl), (Nat.le_of_ble_eq_true rfl)⟩ ?_
  show sh_cW _ _ (_, _, [.int (K 19 s)]) K L _ _ _ _ _
  refine sh_cp (fun w Z k => sh_if_le (tgt := 14) dc_Semaphore_mustQueue_7 (by decide) (fun _ => k) (fun z => absurd c0_7 z)) ?_
  refine sh_cp (fun w Z k => sh_iconst (v := 0) dc_Semaphore_mustQueue_14 (by decide) k) ?_
  exact sh_ce (fun w => sh_ireturn dc_Semaphore_mustQueue_15 rfl rfl (by decide) (by decide))
theorem ct_Semaphore_mustQueue_2 {A : Nat → Nat} {K : sh_II} {L : sh_DD} {t : Nat} {s : Nat} {m : Int32} (ht : t < 6) (hs : s < 8) (hk_s : cw_cl (K 12 s) = 5) (c0_7 : ¬ (K 19 s) ≤ 0) : sh_cM A md_Semaphore_mustQueue [.ref (A (20 + s)), .ref (A (10 + t)), .int m] K L (.inl (some (.int 1))) K L := by
  refine sh_cp (fun w Z k => sh_aload_n dc_Semaphore_mustQueue_0 rfl rfl k) ?_
  refine sh_cget (20 + s) 1 dc_Semaphore_mustQueue_1 (cw_oe (by omega) hk_s) rfl (by decide) fl_Semaphore_15 rfl rfl rfl rfl ?_
  refine sh_ccall (fun w hw => sh_virt (As := []) dc_Semaphore_mustQueue_4 lm_Waiters_size ln_Semaphore_19 wd_552 wd_12 rfl rfl (Nat.le_of_ble_eq_true rfl) (hw _ _ (cw_ot (by omega) (cw_nz hk_s (by decide)))) rfl) (ct_Waiters_size_1 (s := s) (by omega) (cw_nz hk_s (by decide))) ⟨(Nat.le_of_ble_eq_true rfl), (Nat.le_of_ble_eq_true rfl), (Nat.le_of_ble_eq_true rfl), (Nat.le_of_ble_eq_true rfl)⟩ ?_
  show sh_cW _ _ (_, _, [.int (K 19 s)]) K L _ _ _ _ _
  refine sh_cp (fun w Z k => sh_if_le (tgt := 14) dc_Semaphore_mustQueue_7 (by decide) (fun z => absurd z c0_7) (fun _ => k)) ?_
  refine sh_cp (fun w Z k => sh_iconst (v := 1) dc_Semaphore_mustQueue_10 (by decide) k) ?_
  refine sh_cp (fun w Z k => sh_goto_ (tgt := 15) dc_Semaphore_mustQueue_11 (by decide) k) ?_
  exact sh_ce (fun w => sh_ireturn dc_Semaphore_mustQueue_15 rfl rfl (by decide) (by decide))
theorem ct_Semaphore_giveBack_1 {A : Nat → Nat} {K : sh_II} {L : sh_DD} {t : Nat} {s : Nat} {m : Int32} (ht : t < 6) (hs : s < 8) (hk_s : cw_cl (K 12 s) = 5) (c0_6 : (K 15 s) < 100) : sh_cM A md_Semaphore_giveBack [.ref (A (20 + s)), .ref (A (10 + t)), .int m] K L (.inl none) (sh_u2 K 15 s ((K 15 s) + 1)) L := by
  refine sh_cp (fun w Z k => sh_aload_n dc_Semaphore_giveBack_0 rfl rfl k) ?_
  refine sh_cget (20 + s) 4 dc_Semaphore_giveBack_1 (cw_oe (by omega) hk_s) rfl (by decide) fl_Semaphore_9 rfl rfl rfl rfl ?_
  refine sh_cp (fun w Z k => sh_bipush (v := 100) dc_Semaphore_giveBack_4 (by decide) k) ?_
  refine sh_cp (fun w Z k => sh_icmp_lt (tgt := 19) dc_Semaphore_giveBack_6 (by decide) (fun _ => k) (fun z => absurd c0_6 z)) ?_
  refine sh_cp (fun w Z k => sh_aload_n dc_Semaphore_giveBack_19 rfl rfl k) ?_
  refine sh_cp (fun w Z k => sh_dup dc_Semaphore_giveBack_20 rfl k) ?_
  refine sh_cget (20 + s) 4 dc_Semaphore_giveBack_21 (cw_oe (by omega) hk_s) rfl (by decide) fl_Semaphore_9 rfl rfl rfl rfl ?_
  refine sh_cp (fun w Z k => sh_iconst (v := 1) dc_Semaphore_giveBack_24 (by decide) k) ?_
  refine sh_cp (fun w Z k => sh_iadd dc_Semaphore_giveBack_25 k) ?_
  refine sh_cput (K1 := (sh_u2 K 15 s ((K 15 s) + 1))) (L1 := L) (20 + s) 4 dc_Semaphore_giveBack_26 (cw_oe (by omega) hk_s) rfl (by decide) fl_Semaphore_9 rfl rfl rfl rfl pd_I rfl rfl (cq_Semaphore_15 (by omega) hk_s) (fun i hi => cw_upI (by decide) hi) ?_
  exact sh_ce (fun w => sh_return dc_Semaphore_giveBack_29 rfl (by decide) (by decide))
theorem ct_Semaphore_giveBack_2 {A : Nat → Nat} {K : sh_II} {L : sh_DD} {t : Nat} {s : Nat} {m : Int32} (ht : t < 6) (hs : s < 8) (hk_s : cw_cl (K 12 s) = 5) (c0_6 : ¬ (K 15 s) < 100) : sh_cM A md_Semaphore_giveBack [.ref (A (20 + s)), .ref (A (10 + t)), .int m] K L (.inr 4) K L := by
  refine sh_cp (fun w Z k => sh_aload_n dc_Semaphore_giveBack_0 rfl rfl k) ?_
  refine sh_cget (20 + s) 4 dc_Semaphore_giveBack_1 (cw_oe (by omega) hk_s) rfl (by decide) fl_Semaphore_9 rfl rfl rfl rfl ?_
  refine sh_cp (fun w Z k => sh_bipush (v := 100) dc_Semaphore_giveBack_4 (by decide) k) ?_
  refine sh_cp (fun w Z k => sh_icmp_lt (tgt := 19) dc_Semaphore_giveBack_6 (by decide) (fun z => absurd z c0_6) (fun _ => k)) ?_
  exact sh_ct (fun w => sh_thr (lx := 2) (tx := "there are no more permits than these") dc_Semaphore_giveBack_9 dc_Semaphore_giveBack_12 (Or.inl ⟨dc_Semaphore_giveBack_13, rfl⟩) dc_Semaphore_giveBack_15 dc_Semaphore_giveBack_18 lx_Semaphore_25_29 (by decide +kernel) rfl (by decide) (by decide) (by decide) (by decide))
theorem ct_Semaphore_take_1 {A : Nat → Nat} {K : sh_II} {L : sh_DD} {t : Nat} {s : Nat} {m : Int32} {e : Int32} (ht : t < 6) (hs : s < 8) (hk_s : cw_cl (K 12 s) = 5) : sh_cM A md_Semaphore_take [.ref (A (20 + s)), .ref (A (10 + t)), .int m, .int e] K L (.inl none) (sh_u2 K 15 s ((K 15 s) - 1)) L := by
  refine sh_cp (fun w Z k => sh_aload_n dc_Semaphore_take_0 rfl rfl k) ?_
  refine sh_cp (fun w Z k => sh_dup dc_Semaphore_take_1 rfl k) ?_
  refine sh_cget (20 + s) 4 dc_Semaphore_take_2 (cw_oe (by omega) hk_s) rfl (by decide) fl_Semaphore_9 rfl rfl rfl rfl ?_
  refine sh_cp (fun w Z k => sh_iconst (v := 1) dc_Semaphore_take_5 (by decide) k) ?_
  refine sh_cp (fun w Z k => sh_isub dc_Semaphore_take_6 k) ?_
  refine sh_cput (K1 := (sh_u2 K 15 s ((K 15 s) - 1))) (L1 := L) (20 + s) 4 dc_Semaphore_take_7 (cw_oe (by omega) hk_s) rfl (by decide) fl_Semaphore_9 rfl rfl rfl rfl pd_I rfl rfl (cq_Semaphore_15 (by omega) hk_s) (fun i hi => cw_upI (by decide) hi) ?_
  exact sh_ce (fun w => sh_return dc_Semaphore_take_10 rfl (by decide) (by decide))
theorem ct_Semaphore_amount_1 {A : Nat → Nat} {K : sh_II} {L : sh_DD} {s : Nat} (hs : s < 8) (hk_s : cw_cl (K 12 s) = 5) : sh_cM A md_Semaphore_amount [.ref (A (20 + s))] K L (.inl (some (.int (K 15 s)))) K L := by
  refine sh_cp (fun w Z k => sh_aload_n dc_Semaphore_amount_0 rfl rfl k) ?_
  refine sh_cget (20 + s) 4 dc_Semaphore_amount_1 (cw_oe (by omega) hk_s) rfl (by decide) fl_Semaphore_9 rfl rfl rfl rfl ?_
  exact sh_ce (fun w => sh_ireturn dc_Semaphore_amount_4 rfl rfl (by decide) (by decide))
theorem ct_Latch_canTake_1 {A : Nat → Nat} {K : sh_II} {L : sh_DD} {t : Nat} {s : Nat} {m : Int32} (ht : t < 6) (hs : s < 8) (hk_s : cw_cl (K 12 s) = 6) (c0_4 : (K 15 s) = 0) : sh_cM A md_Latch_canTake [.ref (A (20 + s)), .ref (A (10 + t)), .int m] K L (.inl (some (.int 1))) K L := by
  refine sh_cp (fun w Z k => sh_aload_n dc_Latch_canTake_0 rfl rfl k) ?_
  refine sh_cget (20 + s) 4 dc_Latch_canTake_1 (cw_oa (by omega) hk_s) rfl (by decide) fl_Latch_9 rfl rfl rfl rfl ?_
  refine sh_cp (fun w Z k => sh_if_ne (tgt := 11) dc_Latch_canTake_4 (by decide) (fun z => absurd c0_4 z) (fun _ => k)) ?_
  refine sh_cp (fun w Z k => sh_iconst (v := 1) dc_Latch_canTake_7 (by decide) k) ?_
  refine sh_cp (fun w Z k => sh_goto_ (tgt := 12) dc_Latch_canTake_8 (by decide) k) ?_
  exact sh_ce (fun w => sh_ireturn dc_Latch_canTake_12 rfl rfl (by decide) (by decide))
theorem ct_Latch_canTake_2 {A : Nat → Nat} {K : sh_II} {L : sh_DD} {t : Nat} {s : Nat} {m : Int32} (ht : t < 6) (hs : s < 8) (hk_s : cw_cl (K 12 s) = 6) (c0_4 : ¬ (K 15 s) = 0) : sh_cM A md_Latch_canTake [.ref (A (20 + s)), .ref (A (10 + t)), .int m] K L (.inl (some (.int 0))) K L := by
  refine sh_cp (fun w Z k => sh_aload_n dc_Latch_canTake_0 rfl rfl k) ?_
  refine sh_cget (20 + s) 4 dc_Latch_canTake_1 (cw_oa (by omega) hk_s) rfl (by decide) fl_Latch_9 rfl rfl rfl rfl ?_
  refine sh_cp (fun w Z k => sh_if_ne (tgt := 11) dc_Latch_canTake_4 (by decide) (fun _ => k) (fun z => absurd z c0_4)) ?_
  refine sh_cp (fun w Z k => sh_iconst (v := 0) dc_Latch_canTake_11 (by decide) k) ?_
  exact sh_ce (fun w => sh_ireturn dc_Latch_canTake_12 rfl rfl (by decide) (by decide))
theorem ct_Latch_mustQueue_1 {A : Nat → Nat} {K : sh_II} {L : sh_DD} {t : Nat} {s : Nat} {m : Int32} (ht : t < 6) (hs : s < 8) (hk_s : cw_cl (K 12 s) = 6) : sh_cM A md_Latch_mustQueue [.ref (A (20 + s)), .ref (A (10 + t)), .int m] K L (.inl (some (.int 0))) K L := by
  refine sh_cp (fun w Z k => sh_iconst (v := 0) dc_Latch_mustQueue_0 (by decide) k) ?_
  exact sh_ce (fun w => sh_ireturn dc_Latch_mustQueue_1 rfl rfl (by decide) (by decide))
theorem ct_Latch_giveBack_1 {A : Nat → Nat} {K : sh_II} {L : sh_DD} {t : Nat} {s : Nat} {m : Int32} (ht : t < 6) (hs : s < 8) (hk_s : cw_cl (K 12 s) = 6) (c0_4 : (K 15 s) ≤ 0) : sh_cM A md_Latch_giveBack [.ref (A (20 + s)), .ref (A (10 + t)), .int m] K L (.inl none) K L := by
  refine sh_cp (fun w Z k => sh_aload_n dc_Latch_giveBack_0 rfl rfl k) ?_
  refine sh_cget (20 + s) 4 dc_Latch_giveBack_1 (cw_oa (by omega) hk_s) rfl (by decide) fl_Latch_9 rfl rfl rfl rfl ?_
  refine sh_cp (fun w Z k => sh_if_le (tgt := 17) dc_Latch_giveBack_4 (by decide) (fun _ => k) (fun z => absurd c0_4 z)) ?_
  exact sh_ce (fun w => sh_return dc_Latch_giveBack_17 rfl (by decide) (by decide))
theorem ct_Latch_giveBack_2 {A : Nat → Nat} {K : sh_II} {L : sh_DD} {t : Nat} {s : Nat} {m : Int32} (ht : t < 6) (hs : s < 8) (hk_s : cw_cl (K 12 s) = 6) (c0_4 : ¬ (K 15 s) ≤ 0) : sh_cM A md_Latch_giveBack [.ref (A (20 + s)), .ref (A (10 + t)), .int m] K L (.inl none) (sh_u2 K 15 s ((K 15 s) - 1)) L := by
  refine sh_cp (fun w Z k => sh_aload_n dc_Latch_giveBack_0 rfl rfl k) ?_
  refine sh_cget (20 + s) 4 dc_Latch_giveBack_1 (cw_oa (by omega) hk_s) rfl (by decide) fl_Latch_9 rfl rfl rfl rfl ?_
  refine sh_cp (fun w Z k => sh_if_le (tgt := 17) dc_Latch_giveBack_4 (by decide) (fun z => absurd z c0_4) (fun _ => k)) ?_
  refine sh_cp (fun w Z k => sh_aload_n dc_Latch_giveBack_7 rfl rfl k) ?_
  refine sh_cp (fun w Z k => sh_dup dc_Latch_giveBack_8 rfl k) ?_
  refine sh_cget (20 + s) 4 dc_Latch_giveBack_9 (cw_oa (by omega) hk_s) rfl (by decide) fl_Latch_9 rfl rfl rfl rfl ?_
  refine sh_cp (fun w Z k => sh_iconst (v := 1) dc_Latch_giveBack_12 (by decide) k) ?_
  refine sh_cp (fun w Z k => sh_isub dc_Latch_giveBack_13 k) ?_
  refine sh_cput (K1 := (sh_u2 K 15 s ((K 15 s) - 1))) (L1 := L) (20 + s) 4 dc_Latch_giveBack_14 (cw_oa (by omega) hk_s) rfl (by decide) fl_Latch_9 rfl rfl rfl rfl pd_I rfl rfl (cq_Latch_15 (by omega) hk_s) (fun i hi => cw_upI (by decide) hi) ?_
  exact sh_ce (fun w => sh_return dc_Latch_giveBack_17 rfl (by decide) (by decide))
theorem ct_Latch_take_1 {A : Nat → Nat} {K : sh_II} {L : sh_DD} {t : Nat} {s : Nat} {m : Int32} {e : Int32} (ht : t < 6) (hs : s < 8) (hk_s : cw_cl (K 12 s) = 6) : sh_cM A md_Latch_take [.ref (A (20 + s)), .ref (A (10 + t)), .int m, .int e] K L (.inl none) K L := by
  exact sh_ce (fun w => sh_return dc_Latch_take_0 rfl (by decide) (by decide))
theorem ct_Latch_amount_1 {A : Nat → Nat} {K : sh_II} {L : sh_DD} {s : Nat} (hs : s < 8) (hk_s : cw_cl (K 12 s) = 6) : sh_cM A md_Latch_amount [.ref (A (20 + s))] K L (.inl (some (.int (K 15 s)))) K L := by
  refine sh_cp (fun w Z k => sh_aload_n dc_Latch_amount_0 rfl rfl k) ?_
  refine sh_cget (20 + s) 4 dc_Latch_amount_1 (cw_oa (by omega) hk_s) rfl (by decide) fl_Latch_9 rfl rfl rfl rfl ?_
  exact sh_ce (fun w => sh_ireturn dc_Latch_amount_4 rfl rfl (by decide) (by decide))
theorem ct_Shared_checkWish_1 {A : Nat → Nat} {K : sh_II} {L : sh_DD} {t : Nat} {s : Nat} {m : Int32} (ht : t < 6) (hs : s < 8) (hk_s : cw_cl (K 12 s) = 7) (c0_2 : m = 1) (c1_14 : (K 17 (6 * s + t)) ≤ 0) : sh_cM A md_Shared_checkWish [.ref (A (20 + s)), .ref (A (10 + t)), .int m] K L (.inl none) K L := by
  refine sh_cp (fun w Z k => sh_iload_n dc_Shared_checkWish_0 rfl rfl k) ?_
  refine sh_cp (fun w Z k => sh_iconst (v := 1) dc_Shared_checkWish_1 (by decide) k) ?_
  refine sh_cp (fun w Z k => sh_icmp_ne (tgt := 35) dc_Shared_checkWish_2 (by decide) (fun z => absurd c0_2 z) (fun _ => k)) ?_
  refine sh_cp (fun w Z k => sh_aload_n dc_Shared_checkWish_5 rfl rfl k) ?_
  refine sh_cget (20 + s) 4 dc_Shared_checkWish_6 (cw_oh (by omega) hk_s) rfl (by decide) fl_Shared_9 rfl rfl rfl rfl ?_
  refine sh_cp (fun w Z k => sh_aload_n dc_Shared_checkWish_9 rfl rfl k) ?_
  refine sh_cget (10 + t) 0 dc_Shared_checkWish_10 (cw_ow (by omega)) rfl (by decide) fl_Shared_15 rfl rfl rfl rfl ?_
  refine sh_ciald (50 + s) (k := t) dc_Shared_checkWish_13 (cw_od (by omega) hk_s) rfl (by omega) (by decide) ?_
  refine sh_cp (fun w Z k => sh_if_le (tgt := 35) dc_Shared_checkWish_14 (by decide) (fun _ => k) (fun z => absurd c1_14 z)) ?_
  exact sh_ce (fun w => sh_return dc_Shared_checkWish_35 rfl (by decide) (by decide))
theorem ct_Shared_checkWish_2 {A : Nat → Nat} {K : sh_II} {L : sh_DD} {t : Nat} {s : Nat} {m : Int32} (ht : t < 6) (hs : s < 8) (hk_s : cw_cl (K 12 s) = 7) (c0_2 : m = 1) (c1_14 : ¬ (K 17 (6 * s + t)) ≤ 0) (c2_18 : (K 13 s) = -1) : sh_cM A md_Shared_checkWish [.ref (A (20 + s)), .ref (A (10 + t)), .int m] K L (.inr 4) K L := by
  refine sh_cp (fun w Z k => sh_iload_n dc_Shared_checkWish_0 rfl rfl k) ?_
  refine sh_cp (fun w Z k => sh_iconst (v := 1) dc_Shared_checkWish_1 (by decide) k) ?_
  refine sh_cp (fun w Z k => sh_icmp_ne (tgt := 35) dc_Shared_checkWish_2 (by decide) (fun z => absurd c0_2 z) (fun _ => k)) ?_
  refine sh_cp (fun w Z k => sh_aload_n dc_Shared_checkWish_5 rfl rfl k) ?_
  refine sh_cget (20 + s) 4 dc_Shared_checkWish_6 (cw_oh (by omega) hk_s) rfl (by decide) fl_Shared_9 rfl rfl rfl rfl ?_
  refine sh_cp (fun w Z k => sh_aload_n dc_Shared_checkWish_9 rfl rfl k) ?_
  refine sh_cget (10 + t) 0 dc_Shared_checkWish_10 (cw_ow (by omega)) rfl (by decide) fl_Shared_15 rfl rfl rfl rfl ?_
  refine sh_ciald (50 + s) (k := t) dc_Shared_checkWish_13 (cw_od (by omega) hk_s) rfl (by omega) (by decide) ?_
  refine sh_cp (fun w Z k => sh_if_le (tgt := 35) dc_Shared_checkWish_14 (by decide) (fun z => absurd z c1_14) (fun _ => k)) ?_
  refine sh_cp (fun w Z k => sh_aload_n dc_Shared_checkWish_17 rfl rfl k) ?_
  refine sh_cget (20 + s) 5 dc_Shared_checkWish_18 (cw_oh (by omega) hk_s) rfl (by decide) fl_Shared_21 rfl rfl rfl rfl ?_
  refine sh_ctv (cw_rf_0 c2_18) ?_
  refine sh_cp (fun w Z k => sh_aload_n dc_Shared_checkWish_21 rfl rfl k) ?_
  refine sh_cp (fun w Z k => sh_acmp_eq (rx := none) (ry := (some (A (10 + t)))) (tgt := 35) dc_Shared_checkWish_22 (by decide) (fun z => absurd z (fun z => by cases z)) (fun _ => k)) ?_
  exact sh_ct (fun w => sh_thr (lx := 2) (tx := "a reader can't become the writer") dc_Shared_checkWish_25 dc_Shared_checkWish_28 (Or.inl ⟨dc_Shared_checkWish_29, rfl⟩) dc_Shared_checkWish_31 dc_Shared_checkWish_34 lx_Shared_25_29 (by decide +kernel) rfl (by decide) (by decide) (by decide) (by decide))
theorem ct_Shared_checkWish_3 {A : Nat → Nat} {K : sh_II} {L : sh_DD} {t : Nat} {s : Nat} {m : Int32} {u13_18 : Nat} (ht : t < 6) (hs : s < 8) (hk_s : cw_cl (K 12 s) = 7) (c0_2 : m = 1) (c1_14 : ¬ (K 17 (6 * s + t)) ≤ 0) (hu13_18 : u13_18 < 6) (c3_18 : (K 13 s) = nI u13_18) (c4_22 : u13_18 = t) : sh_cM A md_Shared_checkWish [.ref (A (20 + s)), .ref (A (10 + t)), .int m] K L (.inl none) K L := by
  refine sh_cp (fun w Z k => sh_iload_n dc_Shared_checkWish_0 rfl rfl k) ?_
  refine sh_cp (fun w Z k => sh_iconst (v := 1) dc_Shared_checkWish_1 (by decide) k) ?_
  refine sh_cp (fun w Z k => sh_icmp_ne (tgt := 35) dc_Shared_checkWish_2 (by decide) (fun z => absurd c0_2 z) (fun _ => k)) ?_
  refine sh_cp (fun w Z k => sh_aload_n dc_Shared_checkWish_5 rfl rfl k) ?_
  refine sh_cget (20 + s) 4 dc_Shared_checkWish_6 (cw_oh (by omega) hk_s) rfl (by decide) fl_Shared_9 rfl rfl rfl rfl ?_
  refine sh_cp (fun w Z k => sh_aload_n dc_Shared_checkWish_9 rfl rfl k) ?_
  refine sh_cget (10 + t) 0 dc_Shared_checkWish_10 (cw_ow (by omega)) rfl (by decide) fl_Shared_15 rfl rfl rfl rfl ?_
  refine sh_ciald (50 + s) (k := t) dc_Shared_checkWish_13 (cw_od (by omega) hk_s) rfl (by omega) (by decide) ?_
  refine sh_cp (fun w Z k => sh_if_le (tgt := 35) dc_Shared_checkWish_14 (by decide) (fun z => absurd z c1_14) (fun _ => k)) ?_
  refine sh_cp (fun w Z k => sh_aload_n dc_Shared_checkWish_17 rfl rfl k) ?_
  refine sh_cget (20 + s) 5 dc_Shared_checkWish_18 (cw_oh (by omega) hk_s) rfl (by decide) fl_Shared_21 rfl rfl rfl rfl ?_
  refine sh_ctv (cw_rf_n c3_18 (by omega)) ?_
  refine sh_cp (fun w Z k => sh_aload_n dc_Shared_checkWish_21 rfl rfl k) ?_
  refine sh_cacmp_eq (tgt := 35) dc_Shared_checkWish_22 (by decide) (by rw [cw_ow (by omega)]; rfl) (by rw [cw_ow (by omega)]; rfl) (fun _ => ?_) (fun z => absurd (by omega) z)
  exact sh_ce (fun w => sh_return dc_Shared_checkWish_35 rfl (by decide) (by decide))
theorem ct_Shared_checkWish_4 {A : Nat → Nat} {K : sh_II} {L : sh_DD} {t : Nat} {s : Nat} {m : Int32} {u13_18 : Nat} (ht : t < 6) (hs : s < 8) (hk_s : cw_cl (K 12 s) = 7) (c0_2 : m = 1) (c1_14 : ¬ (K 17 (6 * s + t)) ≤ 0) (hu13_18 : u13_18 < 6) (c3_18 : (K 13 s) = nI u13_18) (c4_22 : ¬ u13_18 = t) : sh_cM A md_Shared_checkWish [.ref (A (20 + s)), .ref (A (10 + t)), .int m] K L (.inr 4) K L := by
  refine sh_cp (fun w Z k => sh_iload_n dc_Shared_checkWish_0 rfl rfl k) ?_
  refine sh_cp (fun w Z k => sh_iconst (v := 1) dc_Shared_checkWish_1 (by decide) k) ?_
  refine sh_cp (fun w Z k => sh_icmp_ne (tgt := 35) dc_Shared_checkWish_2 (by decide) (fun z => absurd c0_2 z) (fun _ => k)) ?_
  refine sh_cp (fun w Z k => sh_aload_n dc_Shared_checkWish_5 rfl rfl k) ?_
  refine sh_cget (20 + s) 4 dc_Shared_checkWish_6 (cw_oh (by omega) hk_s) rfl (by decide) fl_Shared_9 rfl rfl rfl rfl ?_
  refine sh_cp (fun w Z k => sh_aload_n dc_Shared_checkWish_9 rfl rfl k) ?_
  refine sh_cget (10 + t) 0 dc_Shared_checkWish_10 (cw_ow (by omega)) rfl (by decide) fl_Shared_15 rfl rfl rfl rfl ?_
  refine sh_ciald (50 + s) (k := t) dc_Shared_checkWish_13 (cw_od (by omega) hk_s) rfl (by omega) (by decide) ?_
  refine sh_cp (fun w Z k => sh_if_le (tgt := 35) dc_Shared_checkWish_14 (by decide) (fun z => absurd z c1_14) (fun _ => k)) ?_
  refine sh_cp (fun w Z k => sh_aload_n dc_Shared_checkWish_17 rfl rfl k) ?_
  refine sh_cget (20 + s) 5 dc_Shared_checkWish_18 (cw_oh (by omega) hk_s) rfl (by decide) fl_Shared_21 rfl rfl rfl rfl ?_
  refine sh_ctv (cw_rf_n c3_18 (by omega)) ?_
  refine sh_cp (fun w Z k => sh_aload_n dc_Shared_checkWish_21 rfl rfl k) ?_
  refine sh_cacmp_eq (tgt := 35) dc_Shared_checkWish_22 (by decide) (by rw [cw_ow (by omega)]; rfl) (by rw [cw_ow (by omega)]; rfl) (fun z => absurd z (by omega)) (fun _ => ?_)
  exact sh_ct (fun w => sh_thr (lx := 2) (tx := "a reader can't become the writer") dc_Shared_checkWish_25 dc_Shared_checkWish_28 (Or.inl ⟨dc_Shared_checkWish_29, rfl⟩) dc_Shared_checkWish_31 dc_Shared_checkWish_34 lx_Shared_25_29 (by decide +kernel) rfl (by decide) (by decide) (by decide) (by decide))
theorem ct_Shared_checkWish_5 {A : Nat → Nat} {K : sh_II} {L : sh_DD} {t : Nat} {s : Nat} {m : Int32} (ht : t < 6) (hs : s < 8) (hk_s : cw_cl (K 12 s) = 7) (c0_2 : ¬ m = 1) : sh_cM A md_Shared_checkWish [.ref (A (20 + s)), .ref (A (10 + t)), .int m] K L (.inl none) K L := by
  refine sh_cp (fun w Z k => sh_iload_n dc_Shared_checkWish_0 rfl rfl k) ?_
  refine sh_cp (fun w Z k => sh_iconst (v := 1) dc_Shared_checkWish_1 (by decide) k) ?_
  refine sh_cp (fun w Z k => sh_icmp_ne (tgt := 35) dc_Shared_checkWish_2 (by decide) (fun _ => k) (fun z => absurd z c0_2)) ?_
  exact sh_ce (fun w => sh_return dc_Shared_checkWish_35 rfl (by decide) (by decide))
theorem ct_Shared_take_1 {A : Nat → Nat} {K : sh_II} {L : sh_DD} {t : Nat} {s : Nat} {m : Int32} {e : Int32} (ht : t < 6) (hs : s < 8) (hk_s : cw_cl (K 12 s) = 7) (c0_1 : m = 0) : sh_cM A md_Shared_take [.ref (A (20 + s)), .ref (A (10 + t)), .int m, .int e] K L (.inl none) (sh_u2 K 17 (6 * s + t) ((K 17 (6 * s + t)) + 1)) L := by
  refine sh_cp (fun w Z k => sh_iload_n dc_Shared_take_0 rfl rfl k) ?_
  refine sh_cp (fun w Z k => sh_if_ne (tgt := 20) dc_Shared_take_1 (by decide) (fun z => absurd c0_1 z) (fun _ => k)) ?_
  refine sh_cp (fun w Z k => sh_aload_n dc_Shared_take_4 rfl rfl k) ?_
  refine sh_cget (20 + s) 4 dc_Shared_take_5 (cw_oh (by omega) hk_s) rfl (by decide) fl_Shared_9 rfl rfl rfl rfl ?_
  refine sh_cp (fun w Z k => sh_aload_n dc_Shared_take_8 rfl rfl k) ?_
  refine sh_cget (10 + t) 0 dc_Shared_take_9 (cw_ow (by omega)) rfl (by decide) fl_Shared_15 rfl rfl rfl rfl ?_
  refine sh_cp (fun w Z k => sh_dup2 dc_Shared_take_12 rfl rfl k) ?_
  refine sh_ciald (50 + s) (k := t) dc_Shared_take_13 (cw_od (by omega) hk_s) rfl (by omega) (by decide) ?_
  refine sh_cp (fun w Z k => sh_iconst (v := 1) dc_Shared_take_14 (by decide) k) ?_
  refine sh_cp (fun w Z k => sh_iadd dc_Shared_take_15 k) ?_
  refine sh_ciast (K1 := (sh_u2 K 17 (6 * s + t) ((K 17 (6 * s + t)) + 1))) (L1 := L) (50 + s) (k := t) dc_Shared_take_16 (cw_od (by omega) hk_s) rfl (by omega) (by decide) (cq_rd_17 (by omega) hk_s (by omega)) (fun i hi => cw_upI (by decide) (by show i ≠ 50 + _ / 6; omega)) ?_
  refine sh_cp (fun w Z k => sh_goto_ (tgt := 35) dc_Shared_take_17 (by decide) k) ?_
  exact sh_ce (fun w => sh_return dc_Shared_take_35 rfl (by decide) (by decide))
theorem ct_Shared_take_2 {A : Nat → Nat} {K : sh_II} {L : sh_DD} {t : Nat} {s : Nat} {m : Int32} {e : Int32} (ht : t < 6) (hs : s < 8) (hk_s : cw_cl (K 12 s) = 7) (c0_1 : ¬ m = 0) : sh_cM A md_Shared_take [.ref (A (20 + s)), .ref (A (10 + t)), .int m, .int e] K L (.inl none) (sh_u2 (sh_u2 K 13 s (nI t)) 14 s ((K 14 s) + 1)) L := by
  refine sh_cp (fun w Z k => sh_iload_n dc_Shared_take_0 rfl rfl k) ?_
  refine sh_cp (fun w Z k => sh_if_ne (tgt := 20) dc_Shared_take_1 (by decide) (fun _ => k) (fun z => absurd z c0_1)) ?_
  refine sh_cp (fun w Z k => sh_aload_n dc_Shared_take_20 rfl rfl k) ?_
  refine sh_cp (fun w Z k => sh_aload_n dc_Shared_take_21 rfl rfl k) ?_
  refine sh_cput (K1 := (sh_u2 K 13 s (nI t))) (L1 := L) (20 + s) 5 dc_Shared_take_22 (cw_oh (by omega) hk_s) rfl (by decide) fl_Shared_21 rfl rfl rfl rfl pd_LWorker rfl rfl (cq_Shared_13 (by omega) hk_s (by omega)) (fun i hi => cw_upI (by decide) hi) ?_
  refine sh_cp (fun w Z k => sh_aload_n dc_Shared_take_25 rfl rfl k) ?_
  refine sh_cp (fun w Z k => sh_dup dc_Shared_take_26 rfl k) ?_
  refine sh_cget (20 + s) 6 dc_Shared_take_27 (cw_oh (by omega) ((congrArg cw_cl (sh_u2_row (by decide) _)).trans hk_s)) rfl (by decide) fl_Shared_50 rfl rfl rfl rfl ?_
  refine sh_cti (show (sh_u2 K 13 s (nI t)) 14 s = K 14 s from (sh_u2_row (by decide) _)) ?_
  refine sh_cp (fun w Z k => sh_iconst (v := 1) dc_Shared_take_30 (by decide) k) ?_
  refine sh_cp (fun w Z k => sh_iadd dc_Shared_take_31 k) ?_
  refine sh_cput (K1 := (sh_u2 (sh_u2 K 13 s (nI t)) 14 s ((K 14 s) + 1))) (L1 := L) (20 + s) 6 dc_Shared_take_32 (cw_oh (by omega) ((congrArg cw_cl (sh_u2_row (by decide) _)).trans hk_s)) rfl (by decide) fl_Shared_50 rfl rfl rfl rfl pd_I rfl rfl (cq_Shared_14 (by omega) ((congrArg cw_cl (sh_u2_row (by decide) _)).trans hk_s)) (fun i hi => cw_upI (by decide) hi) ?_
  exact sh_ce (fun w => sh_return dc_Shared_take_35 rfl (by decide) (by decide))
theorem ct_Shared_stopReading_1 {A : Nat → Nat} {K : sh_II} {L : sh_DD} {t : Nat} {s : Nat} (ht : t < 6) (hs : s < 8) (hk_s : cw_cl (K 12 s) = 7) (c0_9 : 0 < (K 17 (6 * s + t))) : sh_cM A md_Shared_stopReading [.ref (A (20 + s)), .ref (A (10 + t))] K L (.inl none) (sh_u2 K 17 (6 * s + t) ((K 17 (6 * s + t)) - 1)) L := by
  refine sh_cp (fun w Z k => sh_aload_n dc_Shared_stopReading_0 rfl rfl k) ?_
  refine sh_cget (20 + s) 4 dc_Shared_stopReading_1 (cw_oh (by omega) hk_s) rfl (by decide) fl_Shared_9 rfl rfl rfl rfl ?_
  refine sh_cp (fun w Z k => sh_aload_n dc_Shared_stopReading_4 rfl rfl k) ?_
  refine sh_cget (10 + t) 0 dc_Shared_stopReading_5 (cw_ow (by omega)) rfl (by decide) fl_Shared_15 rfl rfl rfl rfl ?_
  refine sh_ciald (50 + s) (k := t) dc_Shared_stopReading_8 (cw_od (by omega) hk_s) rfl (by omega) (by decide) ?_
  refine sh_cp (fun w Z k => sh_if_gt (tgt := 22) dc_Shared_stopReading_9 (by decide) (fun _ => k) (fun z => absurd c0_9 z)) ?_
  refine sh_cp (fun w Z k => sh_aload_n dc_Shared_stopReading_22 rfl rfl k) ?_
  refine sh_cget (20 + s) 4 dc_Shared_stopReading_23 (cw_oh (by omega) hk_s) rfl (by decide) fl_Shared_9 rfl rfl rfl rfl ?_
  refine sh_cp (fun w Z k => sh_aload_n dc_Shared_stopReading_26 rfl rfl k) ?_
  refine sh_cget (10 + t) 0 dc_Shared_stopReading_27 (cw_ow (by omega)) rfl (by decide) fl_Shared_15 rfl rfl rfl rfl ?_
  refine sh_cp (fun w Z k => sh_dup2 dc_Shared_stopReading_30 rfl rfl k) ?_
  refine sh_ciald (50 + s) (k := t) dc_Shared_stopReading_31 (cw_od (by omega) hk_s) rfl (by omega) (by decide) ?_
  refine sh_cp (fun w Z k => sh_iconst (v := 1) dc_Shared_stopReading_32 (by decide) k) ?_
  refine sh_cp (fun w Z k => sh_isub dc_Shared_stopReading_33 k) ?_
  refine sh_ciast (K1 := (sh_u2 K 17 (6 * s + t) ((K 17 (6 * s + t)) - 1))) (L1 := L) (50 + s) (k := t) dc_Shared_stopReading_34 (cw_od (by omega) hk_s) rfl (by omega) (by decide) (cq_rd_17 (by omega) hk_s (by omega)) (fun i hi => cw_upI (by decide) (by show i ≠ 50 + _ / 6; omega)) ?_
  exact sh_ce (fun w => sh_return dc_Shared_stopReading_35 rfl (by decide) (by decide))
theorem ct_Shared_stopReading_2 {A : Nat → Nat} {K : sh_II} {L : sh_DD} {t : Nat} {s : Nat} (ht : t < 6) (hs : s < 8) (hk_s : cw_cl (K 12 s) = 7) (c0_9 : ¬ 0 < (K 17 (6 * s + t))) : sh_cM A md_Shared_stopReading [.ref (A (20 + s)), .ref (A (10 + t))] K L (.inr 3) K L := by
  refine sh_cp (fun w Z k => sh_aload_n dc_Shared_stopReading_0 rfl rfl k) ?_
  refine sh_cget (20 + s) 4 dc_Shared_stopReading_1 (cw_oh (by omega) hk_s) rfl (by decide) fl_Shared_9 rfl rfl rfl rfl ?_
  refine sh_cp (fun w Z k => sh_aload_n dc_Shared_stopReading_4 rfl rfl k) ?_
  refine sh_cget (10 + t) 0 dc_Shared_stopReading_5 (cw_ow (by omega)) rfl (by decide) fl_Shared_15 rfl rfl rfl rfl ?_
  refine sh_ciald (50 + s) (k := t) dc_Shared_stopReading_8 (cw_od (by omega) hk_s) rfl (by omega) (by decide) ?_
  refine sh_cp (fun w Z k => sh_if_gt (tgt := 22) dc_Shared_stopReading_9 (by decide) (fun z => absurd z c0_9) (fun _ => k)) ?_
  exact sh_ct (fun w => sh_thr (lx := 2) (tx := "the thread does not read") dc_Shared_stopReading_12 dc_Shared_stopReading_15 (Or.inl ⟨dc_Shared_stopReading_16, rfl⟩) dc_Shared_stopReading_18 dc_Shared_stopReading_21 lx_Shared_64_68 (by decide +kernel) rfl (by decide) (by decide) (by decide) (by decide))
theorem ct_Shared_stopWriting_1 {A : Nat → Nat} {K : sh_II} {L : sh_DD} {t : Nat} {s : Nat} (ht : t < 6) (hs : s < 8) (hk_s : cw_cl (K 12 s) = 7) (c0_1 : (K 13 s) = -1) : sh_cM A md_Shared_stopWriting [.ref (A (20 + s)), .ref (A (10 + t))] K L (.inr 3) K L := by
  refine sh_cp (fun w Z k => sh_aload_n dc_Shared_stopWriting_0 rfl rfl k) ?_
  refine sh_cget (20 + s) 5 dc_Shared_stopWriting_1 (cw_oh (by omega) hk_s) rfl (by decide) fl_Shared_21 rfl rfl rfl rfl ?_
  refine sh_ctv (cw_rf_0 c0_1) ?_
  refine sh_cp (fun w Z k => sh_aload_n dc_Shared_stopWriting_4 rfl rfl k) ?_
  refine sh_cp (fun w Z k => sh_acmp_eq (rx := none) (ry := (some (A (10 + t)))) (tgt := 18) dc_Shared_stopWriting_5 (by decide) (fun z => absurd z (fun z => by cases z)) (fun _ => k)) ?_
  exact sh_ct (fun w => sh_thr (lx := 2) (tx := "the thread is not the writer") dc_Shared_stopWriting_8 dc_Shared_stopWriting_11 (Or.inl ⟨dc_Shared_stopWriting_12, rfl⟩) dc_Shared_stopWriting_14 dc_Shared_stopWriting_17 lx_Shared_64_68 (by decide +kernel) rfl (by decide) (by decide) (by decide) (by decide))
theorem ct_Shared_stopWriting_2 {A : Nat → Nat} {K : sh_II} {L : sh_DD} {t : Nat} {s : Nat} {u13_1 : Nat} (ht : t < 6) (hs : s < 8) (hk_s : cw_cl (K 12 s) = 7) (hu13_1 : u13_1 < 6) (c1_1 : (K 13 s) = nI u13_1) (c2_5 : u13_1 = t) (c3_32 : 0 < ((K 14 s) - 1)) : sh_cM A md_Shared_stopWriting [.ref (A (20 + s)), .ref (A (10 + t))] K L (.inl none) (sh_u2 K 14 s ((K 14 s) - 1)) L := by
  refine sh_cp (fun w Z k => sh_aload_n dc_Shared_stopWriting_0 rfl rfl k) ?_
  refine sh_cget (20 + s) 5 dc_Shared_stopWriting_1 (cw_oh (by omega) hk_s) rfl (by decide) fl_Shared_21 rfl rfl rfl rfl ?_
  refine sh_ctv (cw_rf_n c1_1 (by omega)) ?_
  refine sh_cp (fun w Z k => sh_aload_n dc_Shared_stopWriting_4 rfl rfl k) ?_
  refine sh_cacmp_eq (tgt := 18) dc_Shared_stopWriting_5 (by decide) (by rw [cw_ow (by omega)]; rfl) (by rw [cw_ow (by omega)]; rfl) (fun _ => ?_) (fun z => absurd (by omega) z)
  refine sh_cp (fun w Z k => sh_aload_n dc_Shared_stopWriting_18 rfl rfl k) ?_
  refine sh_cp (fun w Z k => sh_dup dc_Shared_stopWriting_19 rfl k) ?_
  refine sh_cget (20 + s) 6 dc_Shared_stopWriting_20 (cw_oh (by omega) hk_s) rfl (by decide) fl_Shared_50 rfl rfl rfl rfl ?_
  refine sh_cp (fun w Z k => sh_iconst (v := 1) dc_Shared_stopWriting_23 (by decide) k) ?_
  refine sh_cp (fun w Z k => sh_isub dc_Shared_stopWriting_24 k) ?_
  refine sh_cput (K1 := (sh_u2 K 14 s ((K 14 s) - 1))) (L1 := L) (20 + s) 6 dc_Shared_stopWriting_25 (cw_oh (by omega) hk_s) rfl (by decide) fl_Shared_50 rfl rfl rfl rfl pd_I rfl rfl (cq_Shared_14 (by omega) hk_s) (fun i hi => cw_upI (by decide) hi) ?_
  refine sh_cp (fun w Z k => sh_aload_n dc_Shared_stopWriting_28 rfl rfl k) ?_
  refine sh_cget (20 + s) 6 dc_Shared_stopWriting_29 (cw_oh (by omega) ((congrArg cw_cl (sh_u2_row (by decide) _)).trans hk_s)) rfl (by decide) fl_Shared_50 rfl rfl rfl rfl ?_
  refine sh_cti (show (sh_u2 K 14 s ((K 14 s) - 1)) 14 s = (K 14 s) - 1 from (sh_u2_eq _ _ _ _)) ?_
  refine sh_cp (fun w Z k => sh_if_gt (tgt := 40) dc_Shared_stopWriting_32 (by decide) (fun _ => k) (fun z => absurd c3_32 z)) ?_
  exact sh_ce (fun w => sh_return dc_Shared_stopWriting_40 rfl (by decide) (by decide))
theorem ct_Shared_stopWriting_3 {A : Nat → Nat} {K : sh_II} {L : sh_DD} {t : Nat} {s : Nat} {u13_1 : Nat} (ht : t < 6) (hs : s < 8) (hk_s : cw_cl (K 12 s) = 7) (hu13_1 : u13_1 < 6) (c1_1 : (K 13 s) = nI u13_1) (c2_5 : u13_1 = t) (c3_32 : ¬ 0 < ((K 14 s) - 1)) : sh_cM A md_Shared_stopWriting [.ref (A (20 + s)), .ref (A (10 + t))] K L (.inl none) (sh_u2 (sh_u2 K 14 s ((K 14 s) - 1)) 13 s (-1)) L := by
  refine sh_cp (fun w Z k => sh_aload_n dc_Shared_stopWriting_0 rfl rfl k) ?_
  refine sh_cget (20 + s) 5 dc_Shared_stopWriting_1 (cw_oh (by omega) hk_s) rfl (by decide) fl_Shared_21 rfl rfl rfl rfl ?_
  refine sh_ctv (cw_rf_n c1_1 (by omega)) ?_
  refine sh_cp (fun w Z k => sh_aload_n dc_Shared_stopWriting_4 rfl rfl k) ?_
  refine sh_cacmp_eq (tgt := 18) dc_Shared_stopWriting_5 (by decide) (by rw [cw_ow (by omega)]; rfl) (by rw [cw_ow (by omega)]; rfl) (fun _ => ?_) (fun z => absurd (by omega) z)
  refine sh_cp (fun w Z k => sh_aload_n dc_Shared_stopWriting_18 rfl rfl k) ?_
  refine sh_cp (fun w Z k => sh_dup dc_Shared_stopWriting_19 rfl k) ?_
  refine sh_cget (20 + s) 6 dc_Shared_stopWriting_20 (cw_oh (by omega) hk_s) rfl (by decide) fl_Shared_50 rfl rfl rfl rfl ?_
  refine sh_cp (fun w Z k => sh_iconst (v := 1) dc_Shared_stopWriting_23 (by decide) k) ?_
  refine sh_cp (fun w Z k => sh_isub dc_Shared_stopWriting_24 k) ?_
  refine sh_cput (K1 := (sh_u2 K 14 s ((K 14 s) - 1))) (L1 := L) (20 + s) 6 dc_Shared_stopWriting_25 (cw_oh (by omega) hk_s) rfl (by decide) fl_Shared_50 rfl rfl rfl rfl pd_I rfl rfl (cq_Shared_14 (by omega) hk_s) (fun i hi => cw_upI (by decide) hi) ?_
  refine sh_cp (fun w Z k => sh_aload_n dc_Shared_stopWriting_28 rfl rfl k) ?_
  refine sh_cget (20 + s) 6 dc_Shared_stopWriting_29 (cw_oh (by omega) ((congrArg cw_cl (sh_u2_row (by decide) _)).trans hk_s)) rfl (by decide) fl_Shared_50 rfl rfl rfl rfl ?_
  refine sh_cti (show (sh_u2 K 14 s ((K 14 s) - 1)) 14 s = (K 14 s) - 1 from (sh_u2_eq _ _ _ _)) ?_
  refine sh_cp (fun w Z k => sh_if_gt (tgt := 40) dc_Shared_stopWriting_32 (by decide) (fun z => absurd z c3_32) (fun _ => k)) ?_
  refine sh_cp (fun w Z k => sh_aload_n dc_Shared_stopWriting_35 rfl rfl k) ?_
  refine sh_cp (fun w Z k => sh_anull dc_Shared_stopWriting_36 k) ?_
  refine sh_cput (K1 := (sh_u2 (sh_u2 K 14 s ((K 14 s) - 1)) 13 s (-1))) (L1 := L) (20 + s) 5 dc_Shared_stopWriting_37 (cw_oh (by omega) ((congrArg cw_cl (sh_u2_row (by decide) _)).trans hk_s)) rfl (by decide) fl_Shared_21 rfl rfl rfl rfl pd_LWorker rfl rfl (cq_Shared_13_null (by omega) ((congrArg cw_cl (sh_u2_row (by decide) _)).trans hk_s)) (fun i hi => cw_upI (by decide) hi) ?_
  exact sh_ce (fun w => sh_return dc_Shared_stopWriting_40 rfl (by decide) (by decide))
theorem ct_Shared_stopWriting_4 {A : Nat → Nat} {K : sh_II} {L : sh_DD} {t : Nat} {s : Nat} {u13_1 : Nat} (ht : t < 6) (hs : s < 8) (hk_s : cw_cl (K 12 s) = 7) (hu13_1 : u13_1 < 6) (c1_1 : (K 13 s) = nI u13_1) (c2_5 : ¬ u13_1 = t) : sh_cM A md_Shared_stopWriting [.ref (A (20 + s)), .ref (A (10 + t))] K L (.inr 3) K L := by
  refine sh_cp (fun w Z k => sh_aload_n dc_Shared_stopWriting_0 rfl rfl k) ?_
  refine sh_cget (20 + s) 5 dc_Shared_stopWriting_1 (cw_oh (by omega) hk_s) rfl (by decide) fl_Shared_21 rfl rfl rfl rfl ?_
  refine sh_ctv (cw_rf_n c1_1 (by omega)) ?_
  refine sh_cp (fun w Z k => sh_aload_n dc_Shared_stopWriting_4 rfl rfl k) ?_
  refine sh_cacmp_eq (tgt := 18) dc_Shared_stopWriting_5 (by decide) (by rw [cw_ow (by omega)]; rfl) (by rw [cw_ow (by omega)]; rfl) (fun z => absurd z (by omega)) (fun _ => ?_)
  exact sh_ct (fun w => sh_thr (lx := 2) (tx := "the thread is not the writer") dc_Shared_stopWriting_8 dc_Shared_stopWriting_11 (Or.inl ⟨dc_Shared_stopWriting_12, rfl⟩) dc_Shared_stopWriting_14 dc_Shared_stopWriting_17 lx_Shared_64_68 (by decide +kernel) rfl (by decide) (by decide) (by decide) (by decide))
theorem ct_Shared_giveBack_1 {A : Nat → Nat} {K : sh_II} {L : sh_DD} {t : Nat} {s : Nat} {m : Int32} (ht : t < 6) (hs : s < 8) (hk_s : cw_cl (K 12 s) = 7) (c0_1 : m = 0) (c1_6 : 0 < (K 17 (6 * s + t))) : sh_cM A md_Shared_giveBack [.ref (A (20 + s)), .ref (A (10 + t)), .int m] K L (.inl none) (sh_u2 K 17 (6 * s + t) ((K 17 (6 * s + t)) - 1)) L := by
  refine sh_cp (fun w Z k => sh_iload_n dc_Shared_giveBack_0 rfl rfl k) ?_
  refine sh_cp (fun w Z k => sh_if_ne (tgt := 12) dc_Shared_giveBack_1 (by decide) (fun z => absurd c0_1 z) (fun _ => k)) ?_
  refine sh_cp (fun w Z k => sh_aload_n dc_Shared_giveBack_4 rfl rfl k) ?_
  refine sh_cp (fun w Z k => sh_aload_n dc_Shared_giveBack_5 rfl rfl k) ?_
  refine sh_ccall (fun w hw => sh_virt (As := [.ref (A (10 + t))]) dc_Shared_giveBack_6 lm_Shared_stopReading ln_Shared_53 wd_657 wd_19 rfl rfl (Nat.le_of_ble_eq_true rfl) (hw _ _ (cw_oh (by omega) hk_s)) rfl) (ct_Shared_stopReading_1 (t := t) (s := s) (by omega) (by omega) hk_s c1_6) ⟨(Nat.le_of_ble_eq_true rfl), (Nat.le_of_ble_eq_true rfl), (Nat.le_of_ble_eq_true rfl), (Nat.le_of_ble_eq_true rfl)⟩ ?_
  show sh_cW _ _ (_, _, []) (sh_u2 K 17 (6 * s + t) ((K 17 (6 * s + t)) - 1)) L _ _ _ _ _
  refine sh_cp (fun w Z k => sh_goto_ (tgt := 17) dc_Shared_giveBack_9 (by decide) k) ?_
  exact sh_ce (fun w => sh_return dc_Shared_giveBack_17 rfl (by decide) (by decide))
theorem ct_Shared_giveBack_2 {A : Nat → Nat} {K : sh_II} {L : sh_DD} {t : Nat} {s : Nat} {m : Int32} (ht : t < 6) (hs : s < 8) (hk_s : cw_cl (K 12 s) = 7) (c0_1 : m = 0) (c1_6 : ¬ 0 < (K 17 (6 * s + t))) : sh_cM A md_Shared_giveBack [.ref (A (20 + s)), .ref (A (10 + t)), .int m] K L (.inr 3) K L := by
  refine sh_cp (fun w Z k => sh_iload_n dc_Shared_giveBack_0 rfl rfl k) ?_
  refine sh_cp (fun w Z k => sh_if_ne (tgt := 12) dc_Shared_giveBack_1 (by decide) (fun z => absurd c0_1 z) (fun _ => k)) ?_
  refine sh_cp (fun w Z k => sh_aload_n dc_Shared_giveBack_4 rfl rfl k) ?_
  refine sh_cp (fun w Z k => sh_aload_n dc_Shared_giveBack_5 rfl rfl k) ?_
  exact sh_ccallT (fun w hw => sh_virt (As := [.ref (A (10 + t))]) dc_Shared_giveBack_6 lm_Shared_stopReading ln_Shared_53 wd_657 wd_19 rfl rfl (Nat.le_of_ble_eq_true rfl) (hw _ _ (cw_oh (by omega) hk_s)) rfl) (ct_Shared_stopReading_2 (t := t) (s := s) (by omega) (by omega) hk_s c1_6) ⟨(Nat.le_of_ble_eq_true rfl), (Nat.le_of_ble_eq_true rfl), (Nat.le_of_ble_eq_true rfl), (Nat.le_of_ble_eq_true rfl)⟩ rfl
theorem ct_Shared_giveBack_3 {A : Nat → Nat} {K : sh_II} {L : sh_DD} {t : Nat} {s : Nat} {m : Int32} (ht : t < 6) (hs : s < 8) (hk_s : cw_cl (K 12 s) = 7) (c0_1 : ¬ m = 0) (c1_14 : (K 13 s) = -1) : sh_cM A md_Shared_giveBack [.ref (A (20 + s)), .ref (A (10 + t)), .int m] K L (.inr 3) K L := by
  refine sh_cp (fun w Z k => sh_iload_n dc_Shared_giveBack_0 rfl rfl k) ?_
  refine sh_cp (fun w Z k => sh_if_ne (tgt := 12) dc_Shared_giveBack_1 (by decide) (fun _ => k) (fun z => absurd z c0_1)) ?_
  refine sh_cp (fun w Z k => sh_aload_n dc_Shared_giveBack_12 rfl rfl k) ?_
  refine sh_cp (fun w Z k => sh_aload_n dc_Shared_giveBack_13 rfl rfl k) ?_
  exact sh_ccallT (fun w hw => sh_virt (As := [.ref (A (10 + t))]) dc_Shared_giveBack_14 lm_Shared_stopWriting ln_Shared_57 wd_664 wd_20 rfl rfl (Nat.le_of_ble_eq_true rfl) (hw _ _ (cw_oh (by omega) hk_s)) rfl) (ct_Shared_stopWriting_1 (t := t) (s := s) (by omega) (by omega) hk_s c1_14) ⟨(Nat.le_of_ble_eq_true rfl), (Nat.le_of_ble_eq_true rfl), (Nat.le_of_ble_eq_true rfl), (Nat.le_of_ble_eq_true rfl)⟩ rfl
theorem ct_Shared_giveBack_4 {A : Nat → Nat} {K : sh_II} {L : sh_DD} {t : Nat} {s : Nat} {m : Int32} {u13_14 : Nat} (ht : t < 6) (hs : s < 8) (hk_s : cw_cl (K 12 s) = 7) (c0_1 : ¬ m = 0) (hu13_14 : u13_14 < 6) (c2_14 : (K 13 s) = nI u13_14) (c3_14 : u13_14 = t) (c4_14 : 0 < ((K 14 s) - 1)) : sh_cM A md_Shared_giveBack [.ref (A (20 + s)), .ref (A (10 + t)), .int m] K L (.inl none) (sh_u2 K 14 s ((K 14 s) - 1)) L := by
  refine sh_cp (fun w Z k => sh_iload_n dc_Shared_giveBack_0 rfl rfl k) ?_
  refine sh_cp (fun w Z k => sh_if_ne (tgt := 12) dc_Shared_giveBack_1 (by decide) (fun _ => k) (fun z => absurd z c0_1)) ?_
  refine sh_cp (fun w Z k => sh_aload_n dc_Shared_giveBack_12 rfl rfl k) ?_
  refine sh_cp (fun w Z k => sh_aload_n dc_Shared_giveBack_13 rfl rfl k) ?_
  refine sh_ccall (fun w hw => sh_virt (As := [.ref (A (10 + t))]) dc_Shared_giveBack_14 lm_Shared_stopWriting ln_Shared_57 wd_664 wd_20 rfl rfl (Nat.le_of_ble_eq_true rfl) (hw _ _ (cw_oh (by omega) hk_s)) rfl) (ct_Shared_stopWriting_2 (t := t) (s := s) (u13_1 := u13_14) (by omega) (by omega) hk_s (by omega) c2_14 c3_14 c4_14) ⟨(Nat.le_of_ble_eq_true rfl), (Nat.le_of_ble_eq_true rfl), (Nat.le_of_ble_eq_true rfl), (Nat.le_of_ble_eq_true rfl)⟩ ?_
  show sh_cW _ _ (_, _, []) (sh_u2 K 14 s ((K 14 s) - 1)) L _ _ _ _ _
  exact sh_ce (fun w => sh_return dc_Shared_giveBack_17 rfl (by decide) (by decide))
theorem ct_Shared_giveBack_5 {A : Nat → Nat} {K : sh_II} {L : sh_DD} {t : Nat} {s : Nat} {m : Int32} {u13_14 : Nat} (ht : t < 6) (hs : s < 8) (hk_s : cw_cl (K 12 s) = 7) (c0_1 : ¬ m = 0) (hu13_14 : u13_14 < 6) (c2_14 : (K 13 s) = nI u13_14) (c3_14 : u13_14 = t) (c4_14 : ¬ 0 < ((K 14 s) - 1)) : sh_cM A md_Shared_giveBack [.ref (A (20 + s)), .ref (A (10 + t)), .int m] K L (.inl none) (sh_u2 (sh_u2 K 14 s ((K 14 s) - 1)) 13 s (-1)) L := by
  refine sh_cp (fun w Z k => sh_iload_n dc_Shared_giveBack_0 rfl rfl k) ?_
  refine sh_cp (fun w Z k => sh_if_ne (tgt := 12) dc_Shared_giveBack_1 (by decide) (fun _ => k) (fun z => absurd z c0_1)) ?_
  refine sh_cp (fun w Z k => sh_aload_n dc_Shared_giveBack_12 rfl rfl k) ?_
  refine sh_cp (fun w Z k => sh_aload_n dc_Shared_giveBack_13 rfl rfl k) ?_
  refine sh_ccall (fun w hw => sh_virt (As := [.ref (A (10 + t))]) dc_Shared_giveBack_14 lm_Shared_stopWriting ln_Shared_57 wd_664 wd_20 rfl rfl (Nat.le_of_ble_eq_true rfl) (hw _ _ (cw_oh (by omega) hk_s)) rfl) (ct_Shared_stopWriting_3 (t := t) (s := s) (u13_1 := u13_14) (by omega) (by omega) hk_s (by omega) c2_14 c3_14 c4_14) ⟨(Nat.le_of_ble_eq_true rfl), (Nat.le_of_ble_eq_true rfl), (Nat.le_of_ble_eq_true rfl), (Nat.le_of_ble_eq_true rfl)⟩ ?_
  show sh_cW _ _ (_, _, []) (sh_u2 (sh_u2 K 14 s ((K 14 s) - 1)) 13 s (-1)) L _ _ _ _ _
  exact sh_ce (fun w => sh_return dc_Shared_giveBack_17 rfl (by decide) (by decide))
theorem ct_Shared_giveBack_6 {A : Nat → Nat} {K : sh_II} {L : sh_DD} {t : Nat} {s : Nat} {m : Int32} {u13_14 : Nat} (ht : t < 6) (hs : s < 8) (hk_s : cw_cl (K 12 s) = 7) (c0_1 : ¬ m = 0) (hu13_14 : u13_14 < 6) (c2_14 : (K 13 s) = nI u13_14) (c3_14 : ¬ u13_14 = t) : sh_cM A md_Shared_giveBack [.ref (A (20 + s)), .ref (A (10 + t)), .int m] K L (.inr 3) K L := by
  refine sh_cp (fun w Z k => sh_iload_n dc_Shared_giveBack_0 rfl rfl k) ?_
  refine sh_cp (fun w Z k => sh_if_ne (tgt := 12) dc_Shared_giveBack_1 (by decide) (fun _ => k) (fun z => absurd z c0_1)) ?_
  refine sh_cp (fun w Z k => sh_aload_n dc_Shared_giveBack_12 rfl rfl k) ?_
  refine sh_cp (fun w Z k => sh_aload_n dc_Shared_giveBack_13 rfl rfl k) ?_
  exact sh_ccallT (fun w hw => sh_virt (As := [.ref (A (10 + t))]) dc_Shared_giveBack_14 lm_Shared_stopWriting ln_Shared_57 wd_664 wd_20 rfl rfl (Nat.le_of_ble_eq_true rfl) (hw _ _ (cw_oh (by omega) hk_s)) rfl) (ct_Shared_stopWriting_4 (t := t) (s := s) (u13_1 := u13_14) (by omega) (by omega) hk_s (by omega) c2_14 c3_14) ⟨(Nat.le_of_ble_eq_true rfl), (Nat.le_of_ble_eq_true rfl), (Nat.le_of_ble_eq_true rfl), (Nat.le_of_ble_eq_true rfl)⟩ rfl
theorem ct_Shared_holdOf_1 {A : Nat → Nat} {K : sh_II} {L : sh_DD} {t : Nat} {s : Nat} (ht : t < 6) (hs : s < 8) (hk_s : cw_cl (K 12 s) = 7) (c0_1 : (K 13 s) = -1) : sh_cM A md_Shared_holdOf [.ref (A (20 + s)), .ref (A (10 + t))] K L (.inl (some (.int (0 + (K 17 (6 * s + t)))))) K L := by
  refine sh_cp (fun w Z k => sh_aload_n dc_Shared_holdOf_0 rfl rfl k) ?_
  refine sh_cget (20 + s) 5 dc_Shared_holdOf_1 (cw_oh (by omega) hk_s) rfl (by decide) fl_Shared_21 rfl rfl rfl rfl ?_
  refine sh_ctv (cw_rf_0 c0_1) ?_
  refine sh_cp (fun w Z k => sh_aload_n dc_Shared_holdOf_4 rfl rfl k) ?_
  refine sh_cp (fun w Z k => sh_acmp_ne (rx := none) (ry := (some (A (10 + t)))) (tgt := 15) dc_Shared_holdOf_5 (by decide) (fun _ => k) (fun z => absurd z (fun z => by cases z))) ?_
  refine sh_cp (fun w Z k => sh_iconst (v := 0) dc_Shared_holdOf_15 (by decide) k) ?_
  refine sh_cp (fun w Z k => sh_aload_n dc_Shared_holdOf_16 rfl rfl k) ?_
  refine sh_cget (20 + s) 4 dc_Shared_holdOf_17 (cw_oh (by omega) hk_s) rfl (by decide) fl_Shared_9 rfl rfl rfl rfl ?_
  refine sh_cp (fun w Z k => sh_aload_n dc_Shared_holdOf_20 rfl rfl k) ?_
  refine sh_cget (10 + t) 0 dc_Shared_holdOf_21 (cw_ow (by omega)) rfl (by decide) fl_Shared_15 rfl rfl rfl rfl ?_
  refine sh_ciald (50 + s) (k := t) dc_Shared_holdOf_24 (cw_od (by omega) hk_s) rfl (by omega) (by decide) ?_
  refine sh_cp (fun w Z k => sh_iadd dc_Shared_holdOf_25 k) ?_
  exact sh_ce (fun w => sh_ireturn dc_Shared_holdOf_26 rfl rfl (by decide) (by decide))
theorem ct_Shared_holdOf_2 {A : Nat → Nat} {K : sh_II} {L : sh_DD} {t : Nat} {s : Nat} {u13_1 : Nat} (ht : t < 6) (hs : s < 8) (hk_s : cw_cl (K 12 s) = 7) (hu13_1 : u13_1 < 6) (c1_1 : (K 13 s) = nI u13_1) (c2_5 : u13_1 = t) : sh_cM A md_Shared_holdOf [.ref (A (20 + s)), .ref (A (10 + t))] K L (.inl (some (.int ((K 14 s) + (K 17 (6 * s + t)))))) K L := by
  refine sh_cp (fun w Z k => sh_aload_n dc_Shared_holdOf_0 rfl rfl k) ?_
  refine sh_cget (20 + s) 5 dc_Shared_holdOf_1 (cw_oh (by omega) hk_s) rfl (by decide) fl_Shared_21 rfl rfl rfl rfl ?_
  refine sh_ctv (cw_rf_n c1_1 (by omega)) ?_
  refine sh_cp (fun w Z k => sh_aload_n dc_Shared_holdOf_4 rfl rfl k) ?_
  refine sh_cacmp_ne (tgt := 15) dc_Shared_holdOf_5 (by decide) (by rw [cw_ow (by omega)]; rfl) (by rw [cw_ow (by omega)]; rfl) (fun z => absurd (by omega) z) (fun _ => ?_)
  refine sh_cp (fun w Z k => sh_aload_n dc_Shared_holdOf_8 rfl rfl k) ?_
  refine sh_cget (20 + s) 6 dc_Shared_holdOf_9 (cw_oh (by omega) hk_s) rfl (by decide) fl_Shared_50 rfl rfl rfl rfl ?_
  refine sh_cp (fun w Z k => sh_goto_ (tgt := 16) dc_Shared_holdOf_12 (by decide) k) ?_
  refine sh_cp (fun w Z k => sh_aload_n dc_Shared_holdOf_16 rfl rfl k) ?_
  refine sh_cget (20 + s) 4 dc_Shared_holdOf_17 (cw_oh (by omega) hk_s) rfl (by decide) fl_Shared_9 rfl rfl rfl rfl ?_
  refine sh_cp (fun w Z k => sh_aload_n dc_Shared_holdOf_20 rfl rfl k) ?_
  refine sh_cget (10 + t) 0 dc_Shared_holdOf_21 (cw_ow (by omega)) rfl (by decide) fl_Shared_15 rfl rfl rfl rfl ?_
  refine sh_ciald (50 + s) (k := t) dc_Shared_holdOf_24 (cw_od (by omega) hk_s) rfl (by omega) (by decide) ?_
  refine sh_cp (fun w Z k => sh_iadd dc_Shared_holdOf_25 k) ?_
  exact sh_ce (fun w => sh_ireturn dc_Shared_holdOf_26 rfl rfl (by decide) (by decide))
theorem ct_Shared_holdOf_3 {A : Nat → Nat} {K : sh_II} {L : sh_DD} {t : Nat} {s : Nat} {u13_1 : Nat} (ht : t < 6) (hs : s < 8) (hk_s : cw_cl (K 12 s) = 7) (hu13_1 : u13_1 < 6) (c1_1 : (K 13 s) = nI u13_1) (c2_5 : ¬ u13_1 = t) : sh_cM A md_Shared_holdOf [.ref (A (20 + s)), .ref (A (10 + t))] K L (.inl (some (.int (0 + (K 17 (6 * s + t)))))) K L := by
  refine sh_cp (fun w Z k => sh_aload_n dc_Shared_holdOf_0 rfl rfl k) ?_
  refine sh_cget (20 + s) 5 dc_Shared_holdOf_1 (cw_oh (by omega) hk_s) rfl (by decide) fl_Shared_21 rfl rfl rfl rfl ?_
  refine sh_ctv (cw_rf_n c1_1 (by omega)) ?_
  refine sh_cp (fun w Z k => sh_aload_n dc_Shared_holdOf_4 rfl rfl k) ?_
  refine sh_cacmp_ne (tgt := 15) dc_Shared_holdOf_5 (by decide) (by rw [cw_ow (by omega)]; rfl) (by rw [cw_ow (by omega)]; rfl) (fun _ => ?_) (fun z => absurd z (by omega))
  refine sh_cp (fun w Z k => sh_iconst (v := 0) dc_Shared_holdOf_15 (by decide) k) ?_
  refine sh_cp (fun w Z k => sh_aload_n dc_Shared_holdOf_16 rfl rfl k) ?_
  refine sh_cget (20 + s) 4 dc_Shared_holdOf_17 (cw_oh (by omega) hk_s) rfl (by decide) fl_Shared_9 rfl rfl rfl rfl ?_
  refine sh_cp (fun w Z k => sh_aload_n dc_Shared_holdOf_20 rfl rfl k) ?_
  refine sh_cget (10 + t) 0 dc_Shared_holdOf_21 (cw_ow (by omega)) rfl (by decide) fl_Shared_15 rfl rfl rfl rfl ?_
  refine sh_ciald (50 + s) (k := t) dc_Shared_holdOf_24 (cw_od (by omega) hk_s) rfl (by omega) (by decide) ?_
  refine sh_cp (fun w Z k => sh_iadd dc_Shared_holdOf_25 k) ?_
  exact sh_ce (fun w => sh_ireturn dc_Shared_holdOf_26 rfl rfl (by decide) (by decide))
theorem ct_Gate_checkWish_Lock_1 {A : Nat → Nat} {K : sh_II} {L : sh_DD} {t : Nat} {s : Nat} {m : Int32} (ht : t < 6) (hs : s < 8) (hk_s : cw_cl (K 12 s) = 4) : sh_cM A md_Gate_checkWish [.ref (A (20 + s)), .ref (A (10 + t)), .int m] K L (.inl none) K L := by
  exact sh_ce (fun w => sh_return dc_Gate_checkWish_0 rfl (by decide) (by decide))
theorem ct_Gate_checkWish_Semaphore_1 {A : Nat → Nat} {K : sh_II} {L : sh_DD} {t : Nat} {s : Nat} {m : Int32} (ht : t < 6) (hs : s < 8) (hk_s : cw_cl (K 12 s) = 5) : sh_cM A md_Gate_checkWish [.ref (A (20 + s)), .ref (A (10 + t)), .int m] K L (.inl none) K L := by
  exact sh_ce (fun w => sh_return dc_Gate_checkWish_0 rfl (by decide) (by decide))
theorem ct_Gate_checkWish_Latch_1 {A : Nat → Nat} {K : sh_II} {L : sh_DD} {t : Nat} {s : Nat} {m : Int32} (ht : t < 6) (hs : s < 8) (hk_s : cw_cl (K 12 s) = 6) : sh_cM A md_Gate_checkWish [.ref (A (20 + s)), .ref (A (10 + t)), .int m] K L (.inl none) K L := by
  exact sh_ce (fun w => sh_return dc_Gate_checkWish_0 rfl (by decide) (by decide))
theorem ct_Sync_addWaited_Lock_1 {A : Nat → Nat} {K : sh_II} {L : sh_DD} {s : Nat} {x : UInt64} (hs : s < 8) (hk_s : cw_cl (K 12 s) = 4) (v0_6 : vf_n64 (FP.dadd (L 20 s) x)) : sh_cM A md_Sync_addWaited [.ref (A (20 + s)), .double x] K L (.inl none) (sh_u2 K 21 s ((K 21 s) + 1)) (sh_u2 L 20 s (FP.dadd (L 20 s) x)) := by
  refine sh_cp (fun w Z k => sh_aload_n dc_Sync_addWaited_0 rfl rfl k) ?_
  refine sh_cp (fun w Z k => sh_aload_n dc_Sync_addWaited_1 rfl rfl k) ?_
  refine sh_cget (20 + s) 2 dc_Sync_addWaited_2 (cw_ol (by omega) hk_s) rfl (by decide) fl_Sync_49 rfl rfl rfl rfl ?_
  refine sh_cp (fun w Z k => sh_dload_n dc_Sync_addWaited_5 rfl rfl k) ?_
  refine sh_cp (fun w Z k => sh_dadd dc_Sync_addWaited_6 v0_6 k) ?_
  refine sh_cput (K1 := K) (L1 := (sh_u2 L 20 s (FP.dadd (L 20 s) x))) (20 + s) 2 dc_Sync_addWaited_7 (cw_ol (by omega) hk_s) rfl (by decide) fl_Sync_49 rfl rfl rfl rfl pd_D rfl rfl (cq_Lock_20 (by omega) hk_s) (fun i hi => cw_upD hi) ?_
  refine sh_cp (fun w Z k => sh_aload_n dc_Sync_addWaited_10 rfl rfl k) ?_
  refine sh_cp (fun w Z k => sh_dup dc_Sync_addWaited_11 rfl k) ?_
  refine sh_cget (20 + s) 3 dc_Sync_addWaited_12 (cw_ol (by omega) hk_s) rfl (by decide) fl_Sync_52 rfl rfl rfl rfl ?_
  refine sh_cp (fun w Z k => sh_iconst (v := 1) dc_Sync_addWaited_15 (by decide) k) ?_
  refine sh_cp (fun w Z k => sh_iadd dc_Sync_addWaited_16 k) ?_
  refine sh_cput (K1 := (sh_u2 K 21 s ((K 21 s) + 1))) (L1 := (sh_u2 L 20 s (FP.dadd (L 20 s) x))) (20 + s) 3 dc_Sync_addWaited_17 (cw_ol (by omega) hk_s) rfl (by decide) fl_Sync_52 rfl rfl rfl rfl pd_I rfl rfl (cq_Lock_21 (by omega) hk_s) (fun i hi => cw_upI (by decide) hi) ?_
  exact sh_ce (fun w => sh_return dc_Sync_addWaited_20 rfl (by decide) (by decide))
theorem ct_Sync_amount_Lock_1 {A : Nat → Nat} {K : sh_II} {L : sh_DD} {s : Nat} (hs : s < 8) (hk_s : cw_cl (K 12 s) = 4) : sh_cM A md_Sync_amount [.ref (A (20 + s))] K L (.inl (some (.int 0))) K L := by
  refine sh_cp (fun w Z k => sh_iconst (v := 0) dc_Sync_amount_0 (by decide) k) ?_
  exact sh_ce (fun w => sh_ireturn dc_Sync_amount_1 rfl rfl (by decide) (by decide))
theorem ct_Sync_enqueue_Lock_1 {A : Nat → Nat} {K : sh_II} {L : sh_DD} {t : Nat} {s : Nat} {m : Int32} {a : UInt64} {c : Nat} (ht : t < 6) (hs : s < 8) (hc : c < 6) (ec : K 19 s = nI c) (hk_s : cw_cl (K 12 s) = 4) : sh_cM A md_Sync_enqueue [.ref (A (20 + s)), .ref (A (10 + t)), .int m, .double a] K L (.inl none) (sh_u2 (sh_u2 (sh_u2 (sh_u2 (sh_u2 K 18 (6 * s + c) (nI t)) 19 s ((K 19 s) + 1)) 5 t (nI s)) 6 t m) 4 t 0) (sh_u2 L 8 t a) := by
  refine sh_cp (fun w Z k => sh_aload_n dc_Sync_enqueue_0 rfl rfl k) ?_
  refine sh_cget (20 + s) 1 dc_Sync_enqueue_1 (cw_ol (by omega) hk_s) rfl (by decide) fl_Sync_18 rfl rfl rfl rfl ?_
  refine sh_cp (fun w Z k => sh_aload_n dc_Sync_enqueue_4 rfl rfl k) ?_
  refine sh_ccall (fun w hw => sh_virt (As := [.ref (A (10 + t))]) dc_Sync_enqueue_5 lm_Waiters_add ln_Sync_22 wd_615 wd_16 rfl rfl (Nat.le_of_ble_eq_true rfl) (hw _ _ (cw_ot (by omega) (cw_nz hk_s (by decide)))) rfl) (ct_Waiters_add_1 (s := s) (t := t) (c := c) (by omega) (by omega) (cw_nz hk_s (by decide)) (by omega) ec) ⟨(Nat.le_of_ble_eq_true rfl), (Nat.le_of_ble_eq_true rfl), (Nat.le_of_ble_eq_true rfl), (Nat.le_of_ble_eq_true rfl)⟩ ?_
  show sh_cW _ _ (_, _, []) (sh_u2 (sh_u2 K 18 (6 * s + c) (nI t)) 19 s ((K 19 s) + 1)) L _ _ _ _ _
  refine sh_cp (fun w Z k => sh_aload_n dc_Sync_enqueue_8 rfl rfl k) ?_
  refine sh_cp (fun w Z k => sh_aload_n dc_Sync_enqueue_9 rfl rfl k) ?_
  refine sh_cput (K1 := (sh_u2 (sh_u2 (sh_u2 K 18 (6 * s + c) (nI t)) 19 s ((K 19 s) + 1)) 5 t (nI s))) (L1 := L) (10 + t) 4 dc_Sync_enqueue_10 (cw_ow (by omega)) rfl (by decide) fl_Sync_26 rfl rfl rfl rfl pd_LSync rfl rfl (cq_Worker_5 (by omega) (by omega)) (fun i hi => cw_upI (by decide) hi) ?_
  refine sh_cp (fun w Z k => sh_aload_n dc_Sync_enqueue_13 rfl rfl k) ?_
  refine sh_cp (fun w Z k => sh_iload_n dc_Sync_enqueue_14 rfl rfl k) ?_
  refine sh_cput (K1 := (sh_u2 (sh_u2 (sh_u2 (sh_u2 K 18 (6 * s + c) (nI t)) 19 s ((K 19 s) + 1)) 5 t (nI s)) 6 t m)) (L1 := L) (10 + t) 5 dc_Sync_enqueue_15 (cw_ow (by omega)) rfl (by decide) fl_Sync_32 rfl rfl rfl rfl pd_I rfl rfl (cq_Worker_6 (by omega)) (fun i hi => cw_upI (by decide) hi) ?_
  refine sh_cp (fun w Z k => sh_aload_n dc_Sync_enqueue_18 rfl rfl k) ?_
  refine sh_cp (fun w Z k => sh_dload_n dc_Sync_enqueue_19 rfl rfl k) ?_
  refine sh_cput (K1 := (sh_u2 (sh_u2 (sh_u2 (sh_u2 K 18 (6 * s + c) (nI t)) 19 s ((K 19 s) + 1)) 5 t (nI s)) 6 t m)) (L1 := (sh_u2 L 8 t a)) (10 + t) 8 dc_Sync_enqueue_20 (cw_ow (by omega)) rfl (by decide) fl_Sync_35 rfl rfl rfl rfl pd_D rfl rfl (cq_Worker_8 (by omega)) (fun i hi => cw_upD hi) ?_
  refine sh_cp (fun w Z k => sh_aload_n dc_Sync_enqueue_23 rfl rfl k) ?_
  refine sh_cp (fun w Z k => sh_iconst (v := 0) dc_Sync_enqueue_24 (by decide) k) ?_
  refine sh_cput (K1 := (sh_u2 (sh_u2 (sh_u2 (sh_u2 (sh_u2 K 18 (6 * s + c) (nI t)) 19 s ((K 19 s) + 1)) 5 t (nI s)) 6 t m) 4 t 0)) (L1 := (sh_u2 L 8 t a)) (10 + t) 3 dc_Sync_enqueue_25 (cw_ow (by omega)) rfl (by decide) fl_Sync_39 rfl rfl rfl rfl pd_I rfl rfl (cq_Worker_4 (by omega)) (fun i hi => cw_upI (by decide) hi) ?_
  exact sh_ce (fun w => sh_return dc_Sync_enqueue_28 rfl (by decide) (by decide))
theorem ct_Hall_gateOf_Lock_1 {A : Nat → Nat} {K : sh_II} {L : sh_DD} {s : Nat} (hs : s < 8) (hk_s : cw_cl (K 12 s) = 4) : sh_cM A md_Hall_gateOf [.ref (A (20 + s))] K L (.inl (some (.ref (A (20 + s))))) K L := by
  refine sh_cp (fun w Z k => sh_aload_n dc_Hall_gateOf_0 rfl rfl k) ?_
  refine sh_cinstY (20 + s) dc_Hall_gateOf_1 wd_473 (cw_ol (by omega) hk_s) rfl (Or.inr wd_1089) ?_
  refine sh_cp (fun w Z k => sh_if_eq (tgt := 14) dc_Hall_gateOf_4 (by decide) (fun z => absurd z (by decide)) (fun _ => k)) ?_
  refine sh_cp (fun w Z k => sh_aload_n dc_Hall_gateOf_7 rfl rfl k) ?_
  refine sh_ccastY (20 + s) dc_Hall_gateOf_8 wd_473 (cw_ol (by omega) hk_s) rfl (Or.inr wd_1089) ?_
  refine sh_cp (fun w Z k => sh_astore_n dc_Hall_gateOf_11 rfl (by decide) k) ?_
  refine sh_cp (fun w Z k => sh_aload_n dc_Hall_gateOf_12 rfl rfl k) ?_
  exact sh_ce (fun w => sh_areturn (v := (some (A (20 + s)))) dc_Hall_gateOf_13 rfl (by decide) (by decide))
theorem ct_Sync_addWaited_Semaphore_1 {A : Nat → Nat} {K : sh_II} {L : sh_DD} {s : Nat} {x : UInt64} (hs : s < 8) (hk_s : cw_cl (K 12 s) = 5) (v0_6 : vf_n64 (FP.dadd (L 20 s) x)) : sh_cM A md_Sync_addWaited [.ref (A (20 + s)), .double x] K L (.inl none) (sh_u2 K 21 s ((K 21 s) + 1)) (sh_u2 L 20 s (FP.dadd (L 20 s) x)) := by
  refine sh_cp (fun w Z k => sh_aload_n dc_Sync_addWaited_0 rfl rfl k) ?_
  refine sh_cp (fun w Z k => sh_aload_n dc_Sync_addWaited_1 rfl rfl k) ?_
  refine sh_cget (20 + s) 2 dc_Sync_addWaited_2 (cw_oe (by omega) hk_s) rfl (by decide) fl_Sync_49 rfl rfl rfl rfl ?_
  refine sh_cp (fun w Z k => sh_dload_n dc_Sync_addWaited_5 rfl rfl k) ?_
  refine sh_cp (fun w Z k => sh_dadd dc_Sync_addWaited_6 v0_6 k) ?_
  refine sh_cput (K1 := K) (L1 := (sh_u2 L 20 s (FP.dadd (L 20 s) x))) (20 + s) 2 dc_Sync_addWaited_7 (cw_oe (by omega) hk_s) rfl (by decide) fl_Sync_49 rfl rfl rfl rfl pd_D rfl rfl (cq_Semaphore_20 (by omega) hk_s) (fun i hi => cw_upD hi) ?_
  refine sh_cp (fun w Z k => sh_aload_n dc_Sync_addWaited_10 rfl rfl k) ?_
  refine sh_cp (fun w Z k => sh_dup dc_Sync_addWaited_11 rfl k) ?_
  refine sh_cget (20 + s) 3 dc_Sync_addWaited_12 (cw_oe (by omega) hk_s) rfl (by decide) fl_Sync_52 rfl rfl rfl rfl ?_
  refine sh_cp (fun w Z k => sh_iconst (v := 1) dc_Sync_addWaited_15 (by decide) k) ?_
  refine sh_cp (fun w Z k => sh_iadd dc_Sync_addWaited_16 k) ?_
  refine sh_cput (K1 := (sh_u2 K 21 s ((K 21 s) + 1))) (L1 := (sh_u2 L 20 s (FP.dadd (L 20 s) x))) (20 + s) 3 dc_Sync_addWaited_17 (cw_oe (by omega) hk_s) rfl (by decide) fl_Sync_52 rfl rfl rfl rfl pd_I rfl rfl (cq_Semaphore_21 (by omega) hk_s) (fun i hi => cw_upI (by decide) hi) ?_
  exact sh_ce (fun w => sh_return dc_Sync_addWaited_20 rfl (by decide) (by decide))
theorem ct_Sync_holdOf_Semaphore_1 {A : Nat → Nat} {K : sh_II} {L : sh_DD} {t : Nat} {s : Nat} (ht : t < 6) (hs : s < 8) (hk_s : cw_cl (K 12 s) = 5) : sh_cM A md_Sync_holdOf [.ref (A (20 + s)), .ref (A (10 + t))] K L (.inl (some (.int 0))) K L := by
  refine sh_cp (fun w Z k => sh_iconst (v := 0) dc_Sync_holdOf_0 (by decide) k) ?_
  exact sh_ce (fun w => sh_ireturn dc_Sync_holdOf_1 rfl rfl (by decide) (by decide))
theorem ct_Sync_enqueue_Semaphore_1 {A : Nat → Nat} {K : sh_II} {L : sh_DD} {t : Nat} {s : Nat} {m : Int32} {a : UInt64} {c : Nat} (ht : t < 6) (hs : s < 8) (hc : c < 6) (ec : K 19 s = nI c) (hk_s : cw_cl (K 12 s) = 5) : sh_cM A md_Sync_enqueue [.ref (A (20 + s)), .ref (A (10 + t)), .int m, .double a] K L (.inl none) (sh_u2 (sh_u2 (sh_u2 (sh_u2 (sh_u2 K 18 (6 * s + c) (nI t)) 19 s ((K 19 s) + 1)) 5 t (nI s)) 6 t m) 4 t 0) (sh_u2 L 8 t a) := by
  refine sh_cp (fun w Z k => sh_aload_n dc_Sync_enqueue_0 rfl rfl k) ?_
  refine sh_cget (20 + s) 1 dc_Sync_enqueue_1 (cw_oe (by omega) hk_s) rfl (by decide) fl_Sync_18 rfl rfl rfl rfl ?_
  refine sh_cp (fun w Z k => sh_aload_n dc_Sync_enqueue_4 rfl rfl k) ?_
  refine sh_ccall (fun w hw => sh_virt (As := [.ref (A (10 + t))]) dc_Sync_enqueue_5 lm_Waiters_add ln_Sync_22 wd_615 wd_16 rfl rfl (Nat.le_of_ble_eq_true rfl) (hw _ _ (cw_ot (by omega) (cw_nz hk_s (by decide)))) rfl) (ct_Waiters_add_1 (s := s) (t := t) (c := c) (by omega) (by omega) (cw_nz hk_s (by decide)) (by omega) ec) ⟨(Nat.le_of_ble_eq_true rfl), (Nat.le_of_ble_eq_true rfl), (Nat.le_of_ble_eq_true rfl), (Nat.le_of_ble_eq_true rfl)⟩ ?_
  show sh_cW _ _ (_, _, []) (sh_u2 (sh_u2 K 18 (6 * s + c) (nI t)) 19 s ((K 19 s) + 1)) L _ _ _ _ _
  refine sh_cp (fun w Z k => sh_aload_n dc_Sync_enqueue_8 rfl rfl k) ?_
  refine sh_cp (fun w Z k => sh_aload_n dc_Sync_enqueue_9 rfl rfl k) ?_
  refine sh_cput (K1 := (sh_u2 (sh_u2 (sh_u2 K 18 (6 * s + c) (nI t)) 19 s ((K 19 s) + 1)) 5 t (nI s))) (L1 := L) (10 + t) 4 dc_Sync_enqueue_10 (cw_ow (by omega)) rfl (by decide) fl_Sync_26 rfl rfl rfl rfl pd_LSync rfl rfl (cq_Worker_5 (by omega) (by omega)) (fun i hi => cw_upI (by decide) hi) ?_
  refine sh_cp (fun w Z k => sh_aload_n dc_Sync_enqueue_13 rfl rfl k) ?_
  refine sh_cp (fun w Z k => sh_iload_n dc_Sync_enqueue_14 rfl rfl k) ?_
  refine sh_cput (K1 := (sh_u2 (sh_u2 (sh_u2 (sh_u2 K 18 (6 * s + c) (nI t)) 19 s ((K 19 s) + 1)) 5 t (nI s)) 6 t m)) (L1 := L) (10 + t) 5 dc_Sync_enqueue_15 (cw_ow (by omega)) rfl (by decide) fl_Sync_32 rfl rfl rfl rfl pd_I rfl rfl (cq_Worker_6 (by omega)) (fun i hi => cw_upI (by decide) hi) ?_
  refine sh_cp (fun w Z k => sh_aload_n dc_Sync_enqueue_18 rfl rfl k) ?_
  refine sh_cp (fun w Z k => sh_dload_n dc_Sync_enqueue_19 rfl rfl k) ?_
  refine sh_cput (K1 := (sh_u2 (sh_u2 (sh_u2 (sh_u2 K 18 (6 * s + c) (nI t)) 19 s ((K 19 s) + 1)) 5 t (nI s)) 6 t m)) (L1 := (sh_u2 L 8 t a)) (10 + t) 8 dc_Sync_enqueue_20 (cw_ow (by omega)) rfl (by decide) fl_Sync_35 rfl rfl rfl rfl pd_D rfl rfl (cq_Worker_8 (by omega)) (fun i hi => cw_upD hi) ?_
  refine sh_cp (fun w Z k => sh_aload_n dc_Sync_enqueue_23 rfl rfl k) ?_
  refine sh_cp (fun w Z k => sh_iconst (v := 0) dc_Sync_enqueue_24 (by decide) k) ?_
  refine sh_cput (K1 := (sh_u2 (sh_u2 (sh_u2 (sh_u2 (sh_u2 K 18 (6 * s + c) (nI t)) 19 s ((K 19 s) + 1)) 5 t (nI s)) 6 t m) 4 t 0)) (L1 := (sh_u2 L 8 t a)) (10 + t) 3 dc_Sync_enqueue_25 (cw_ow (by omega)) rfl (by decide) fl_Sync_39 rfl rfl rfl rfl pd_I rfl rfl (cq_Worker_4 (by omega)) (fun i hi => cw_upI (by decide) hi) ?_
  exact sh_ce (fun w => sh_return dc_Sync_enqueue_28 rfl (by decide) (by decide))
theorem ct_Hall_gateOf_Semaphore_1 {A : Nat → Nat} {K : sh_II} {L : sh_DD} {s : Nat} (hs : s < 8) (hk_s : cw_cl (K 12 s) = 5) : sh_cM A md_Hall_gateOf [.ref (A (20 + s))] K L (.inl (some (.ref (A (20 + s))))) K L := by
  refine sh_cp (fun w Z k => sh_aload_n dc_Hall_gateOf_0 rfl rfl k) ?_
  refine sh_cinstY (20 + s) dc_Hall_gateOf_1 wd_473 (cw_oe (by omega) hk_s) rfl (Or.inr wd_1090) ?_
  refine sh_cp (fun w Z k => sh_if_eq (tgt := 14) dc_Hall_gateOf_4 (by decide) (fun z => absurd z (by decide)) (fun _ => k)) ?_
  refine sh_cp (fun w Z k => sh_aload_n dc_Hall_gateOf_7 rfl rfl k) ?_
  refine sh_ccastY (20 + s) dc_Hall_gateOf_8 wd_473 (cw_oe (by omega) hk_s) rfl (Or.inr wd_1090) ?_
  refine sh_cp (fun w Z k => sh_astore_n dc_Hall_gateOf_11 rfl (by decide) k) ?_
  refine sh_cp (fun w Z k => sh_aload_n dc_Hall_gateOf_12 rfl rfl k) ?_
  exact sh_ce (fun w => sh_areturn (v := (some (A (20 + s)))) dc_Hall_gateOf_13 rfl (by decide) (by decide))
theorem ct_Sync_addWaited_Latch_1 {A : Nat → Nat} {K : sh_II} {L : sh_DD} {s : Nat} {x : UInt64} (hs : s < 8) (hk_s : cw_cl (K 12 s) = 6) (v0_6 : vf_n64 (FP.dadd (L 20 s) x)) : sh_cM A md_Sync_addWaited [.ref (A (20 + s)), .double x] K L (.inl none) (sh_u2 K 21 s ((K 21 s) + 1)) (sh_u2 L 20 s (FP.dadd (L 20 s) x)) := by
  refine sh_cp (fun w Z k => sh_aload_n dc_Sync_addWaited_0 rfl rfl k) ?_
  refine sh_cp (fun w Z k => sh_aload_n dc_Sync_addWaited_1 rfl rfl k) ?_
  refine sh_cget (20 + s) 2 dc_Sync_addWaited_2 (cw_oa (by omega) hk_s) rfl (by decide) fl_Sync_49 rfl rfl rfl rfl ?_
  refine sh_cp (fun w Z k => sh_dload_n dc_Sync_addWaited_5 rfl rfl k) ?_
  refine sh_cp (fun w Z k => sh_dadd dc_Sync_addWaited_6 v0_6 k) ?_
  refine sh_cput (K1 := K) (L1 := (sh_u2 L 20 s (FP.dadd (L 20 s) x))) (20 + s) 2 dc_Sync_addWaited_7 (cw_oa (by omega) hk_s) rfl (by decide) fl_Sync_49 rfl rfl rfl rfl pd_D rfl rfl (cq_Latch_20 (by omega) hk_s) (fun i hi => cw_upD hi) ?_
  refine sh_cp (fun w Z k => sh_aload_n dc_Sync_addWaited_10 rfl rfl k) ?_
  refine sh_cp (fun w Z k => sh_dup dc_Sync_addWaited_11 rfl k) ?_
  refine sh_cget (20 + s) 3 dc_Sync_addWaited_12 (cw_oa (by omega) hk_s) rfl (by decide) fl_Sync_52 rfl rfl rfl rfl ?_
  refine sh_cp (fun w Z k => sh_iconst (v := 1) dc_Sync_addWaited_15 (by decide) k) ?_
  refine sh_cp (fun w Z k => sh_iadd dc_Sync_addWaited_16 k) ?_
  refine sh_cput (K1 := (sh_u2 K 21 s ((K 21 s) + 1))) (L1 := (sh_u2 L 20 s (FP.dadd (L 20 s) x))) (20 + s) 3 dc_Sync_addWaited_17 (cw_oa (by omega) hk_s) rfl (by decide) fl_Sync_52 rfl rfl rfl rfl pd_I rfl rfl (cq_Latch_21 (by omega) hk_s) (fun i hi => cw_upI (by decide) hi) ?_
  exact sh_ce (fun w => sh_return dc_Sync_addWaited_20 rfl (by decide) (by decide))
theorem ct_Sync_holdOf_Latch_1 {A : Nat → Nat} {K : sh_II} {L : sh_DD} {t : Nat} {s : Nat} (ht : t < 6) (hs : s < 8) (hk_s : cw_cl (K 12 s) = 6) : sh_cM A md_Sync_holdOf [.ref (A (20 + s)), .ref (A (10 + t))] K L (.inl (some (.int 0))) K L := by
  refine sh_cp (fun w Z k => sh_iconst (v := 0) dc_Sync_holdOf_0 (by decide) k) ?_
  exact sh_ce (fun w => sh_ireturn dc_Sync_holdOf_1 rfl rfl (by decide) (by decide))
theorem ct_Sync_enqueue_Latch_1 {A : Nat → Nat} {K : sh_II} {L : sh_DD} {t : Nat} {s : Nat} {m : Int32} {a : UInt64} {c : Nat} (ht : t < 6) (hs : s < 8) (hc : c < 6) (ec : K 19 s = nI c) (hk_s : cw_cl (K 12 s) = 6) : sh_cM A md_Sync_enqueue [.ref (A (20 + s)), .ref (A (10 + t)), .int m, .double a] K L (.inl none) (sh_u2 (sh_u2 (sh_u2 (sh_u2 (sh_u2 K 18 (6 * s + c) (nI t)) 19 s ((K 19 s) + 1)) 5 t (nI s)) 6 t m) 4 t 0) (sh_u2 L 8 t a) := by
  refine sh_cp (fun w Z k => sh_aload_n dc_Sync_enqueue_0 rfl rfl k) ?_
  refine sh_cget (20 + s) 1 dc_Sync_enqueue_1 (cw_oa (by omega) hk_s) rfl (by decide) fl_Sync_18 rfl rfl rfl rfl ?_
  refine sh_cp (fun w Z k => sh_aload_n dc_Sync_enqueue_4 rfl rfl k) ?_
  refine sh_ccall (fun w hw => sh_virt (As := [.ref (A (10 + t))]) dc_Sync_enqueue_5 lm_Waiters_add ln_Sync_22 wd_615 wd_16 rfl rfl (Nat.le_of_ble_eq_true rfl) (hw _ _ (cw_ot (by omega) (cw_nz hk_s (by decide)))) rfl) (ct_Waiters_add_1 (s := s) (t := t) (c := c) (by omega) (by omega) (cw_nz hk_s (by decide)) (by omega) ec) ⟨(Nat.le_of_ble_eq_true rfl), (Nat.le_of_ble_eq_true rfl), (Nat.le_of_ble_eq_true rfl), (Nat.le_of_ble_eq_true rfl)⟩ ?_
  show sh_cW _ _ (_, _, []) (sh_u2 (sh_u2 K 18 (6 * s + c) (nI t)) 19 s ((K 19 s) + 1)) L _ _ _ _ _
  refine sh_cp (fun w Z k => sh_aload_n dc_Sync_enqueue_8 rfl rfl k) ?_
  refine sh_cp (fun w Z k => sh_aload_n dc_Sync_enqueue_9 rfl rfl k) ?_
  refine sh_cput (K1 := (sh_u2 (sh_u2 (sh_u2 K 18 (6 * s + c) (nI t)) 19 s ((K 19 s) + 1)) 5 t (nI s))) (L1 := L) (10 + t) 4 dc_Sync_enqueue_10 (cw_ow (by omega)) rfl (by decide) fl_Sync_26 rfl rfl rfl rfl pd_LSync rfl rfl (cq_Worker_5 (by omega) (by omega)) (fun i hi => cw_upI (by decide) hi) ?_
  refine sh_cp (fun w Z k => sh_aload_n dc_Sync_enqueue_13 rfl rfl k) ?_
  refine sh_cp (fun w Z k => sh_iload_n dc_Sync_enqueue_14 rfl rfl k) ?_
  refine sh_cput (K1 := (sh_u2 (sh_u2 (sh_u2 (sh_u2 K 18 (6 * s + c) (nI t)) 19 s ((K 19 s) + 1)) 5 t (nI s)) 6 t m)) (L1 := L) (10 + t) 5 dc_Sync_enqueue_15 (cw_ow (by omega)) rfl (by decide) fl_Sync_32 rfl rfl rfl rfl pd_I rfl rfl (cq_Worker_6 (by omega)) (fun i hi => cw_upI (by decide) hi) ?_
  refine sh_cp (fun w Z k => sh_aload_n dc_Sync_enqueue_18 rfl rfl k) ?_
  refine sh_cp (fun w Z k => sh_dload_n dc_Sync_enqueue_19 rfl rfl k) ?_
  refine sh_cput (K1 := (sh_u2 (sh_u2 (sh_u2 (sh_u2 K 18 (6 * s + c) (nI t)) 19 s ((K 19 s) + 1)) 5 t (nI s)) 6 t m)) (L1 := (sh_u2 L 8 t a)) (10 + t) 8 dc_Sync_enqueue_20 (cw_ow (by omega)) rfl (by decide) fl_Sync_35 rfl rfl rfl rfl pd_D rfl rfl (cq_Worker_8 (by omega)) (fun i hi => cw_upD hi) ?_
  refine sh_cp (fun w Z k => sh_aload_n dc_Sync_enqueue_23 rfl rfl k) ?_
  refine sh_cp (fun w Z k => sh_iconst (v := 0) dc_Sync_enqueue_24 (by decide) k) ?_
  refine sh_cput (K1 := (sh_u2 (sh_u2 (sh_u2 (sh_u2 (sh_u2 K 18 (6 * s + c) (nI t)) 19 s ((K 19 s) + 1)) 5 t (nI s)) 6 t m) 4 t 0)) (L1 := (sh_u2 L 8 t a)) (10 + t) 3 dc_Sync_enqueue_25 (cw_ow (by omega)) rfl (by decide) fl_Sync_39 rfl rfl rfl rfl pd_I rfl rfl (cq_Worker_4 (by omega)) (fun i hi => cw_upI (by decide) hi) ?_
  exact sh_ce (fun w => sh_return dc_Sync_enqueue_28 rfl (by decide) (by decide))
theorem ct_Hall_gateOf_Latch_1 {A : Nat → Nat} {K : sh_II} {L : sh_DD} {s : Nat} (hs : s < 8) (hk_s : cw_cl (K 12 s) = 6) : sh_cM A md_Hall_gateOf [.ref (A (20 + s))] K L (.inl (some (.ref (A (20 + s))))) K L := by
  refine sh_cp (fun w Z k => sh_aload_n dc_Hall_gateOf_0 rfl rfl k) ?_
  refine sh_cinstY (20 + s) dc_Hall_gateOf_1 wd_473 (cw_oa (by omega) hk_s) rfl (Or.inr wd_1088) ?_
  refine sh_cp (fun w Z k => sh_if_eq (tgt := 14) dc_Hall_gateOf_4 (by decide) (fun z => absurd z (by decide)) (fun _ => k)) ?_
  refine sh_cp (fun w Z k => sh_aload_n dc_Hall_gateOf_7 rfl rfl k) ?_
  refine sh_ccastY (20 + s) dc_Hall_gateOf_8 wd_473 (cw_oa (by omega) hk_s) rfl (Or.inr wd_1088) ?_
  refine sh_cp (fun w Z k => sh_astore_n dc_Hall_gateOf_11 rfl (by decide) k) ?_
  refine sh_cp (fun w Z k => sh_aload_n dc_Hall_gateOf_12 rfl rfl k) ?_
  exact sh_ce (fun w => sh_areturn (v := (some (A (20 + s)))) dc_Hall_gateOf_13 rfl (by decide) (by decide))
theorem ct_Sync_addWaited_Shared_1 {A : Nat → Nat} {K : sh_II} {L : sh_DD} {s : Nat} {x : UInt64} (hs : s < 8) (hk_s : cw_cl (K 12 s) = 7) (v0_6 : vf_n64 (FP.dadd (L 20 s) x)) : sh_cM A md_Sync_addWaited [.ref (A (20 + s)), .double x] K L (.inl none) (sh_u2 K 21 s ((K 21 s) + 1)) (sh_u2 L 20 s (FP.dadd (L 20 s) x)) := by
  refine sh_cp (fun w Z k => sh_aload_n dc_Sync_addWaited_0 rfl rfl k) ?_
  refine sh_cp (fun w Z k => sh_aload_n dc_Sync_addWaited_1 rfl rfl k) ?_
  refine sh_cget (20 + s) 2 dc_Sync_addWaited_2 (cw_oh (by omega) hk_s) rfl (by decide) fl_Sync_49 rfl rfl rfl rfl ?_
  refine sh_cp (fun w Z k => sh_dload_n dc_Sync_addWaited_5 rfl rfl k) ?_
  refine sh_cp (fun w Z k => sh_dadd dc_Sync_addWaited_6 v0_6 k) ?_
  refine sh_cput (K1 := K) (L1 := (sh_u2 L 20 s (FP.dadd (L 20 s) x))) (20 + s) 2 dc_Sync_addWaited_7 (cw_oh (by omega) hk_s) rfl (by decide) fl_Sync_49 rfl rfl rfl rfl pd_D rfl rfl (cq_Shared_20 (by omega) hk_s) (fun i hi => cw_upD hi) ?_
  refine sh_cp (fun w Z k => sh_aload_n dc_Sync_addWaited_10 rfl rfl k) ?_
  refine sh_cp (fun w Z k => sh_dup dc_Sync_addWaited_11 rfl k) ?_
  refine sh_cget (20 + s) 3 dc_Sync_addWaited_12 (cw_oh (by omega) hk_s) rfl (by decide) fl_Sync_52 rfl rfl rfl rfl ?_
  refine sh_cp (fun w Z k => sh_iconst (v := 1) dc_Sync_addWaited_15 (by decide) k) ?_
  refine sh_cp (fun w Z k => sh_iadd dc_Sync_addWaited_16 k) ?_
  refine sh_cput (K1 := (sh_u2 K 21 s ((K 21 s) + 1))) (L1 := (sh_u2 L 20 s (FP.dadd (L 20 s) x))) (20 + s) 3 dc_Sync_addWaited_17 (cw_oh (by omega) hk_s) rfl (by decide) fl_Sync_52 rfl rfl rfl rfl pd_I rfl rfl (cq_Shared_21 (by omega) hk_s) (fun i hi => cw_upI (by decide) hi) ?_
  exact sh_ce (fun w => sh_return dc_Sync_addWaited_20 rfl (by decide) (by decide))
theorem ct_Sync_amount_Shared_1 {A : Nat → Nat} {K : sh_II} {L : sh_DD} {s : Nat} (hs : s < 8) (hk_s : cw_cl (K 12 s) = 7) : sh_cM A md_Sync_amount [.ref (A (20 + s))] K L (.inl (some (.int 0))) K L := by
  refine sh_cp (fun w Z k => sh_iconst (v := 0) dc_Sync_amount_0 (by decide) k) ?_
  exact sh_ce (fun w => sh_ireturn dc_Sync_amount_1 rfl rfl (by decide) (by decide))
theorem ct_Sync_enqueue_Shared_1 {A : Nat → Nat} {K : sh_II} {L : sh_DD} {t : Nat} {s : Nat} {m : Int32} {a : UInt64} {c : Nat} (ht : t < 6) (hs : s < 8) (hc : c < 6) (ec : K 19 s = nI c) (hk_s : cw_cl (K 12 s) = 7) : sh_cM A md_Sync_enqueue [.ref (A (20 + s)), .ref (A (10 + t)), .int m, .double a] K L (.inl none) (sh_u2 (sh_u2 (sh_u2 (sh_u2 (sh_u2 K 18 (6 * s + c) (nI t)) 19 s ((K 19 s) + 1)) 5 t (nI s)) 6 t m) 4 t 0) (sh_u2 L 8 t a) := by
  refine sh_cp (fun w Z k => sh_aload_n dc_Sync_enqueue_0 rfl rfl k) ?_
  refine sh_cget (20 + s) 1 dc_Sync_enqueue_1 (cw_oh (by omega) hk_s) rfl (by decide) fl_Sync_18 rfl rfl rfl rfl ?_
  refine sh_cp (fun w Z k => sh_aload_n dc_Sync_enqueue_4 rfl rfl k) ?_
  refine sh_ccall (fun w hw => sh_virt (As := [.ref (A (10 + t))]) dc_Sync_enqueue_5 lm_Waiters_add ln_Sync_22 wd_615 wd_16 rfl rfl (Nat.le_of_ble_eq_true rfl) (hw _ _ (cw_ot (by omega) (cw_nz hk_s (by decide)))) rfl) (ct_Waiters_add_1 (s := s) (t := t) (c := c) (by omega) (by omega) (cw_nz hk_s (by decide)) (by omega) ec) ⟨(Nat.le_of_ble_eq_true rfl), (Nat.le_of_ble_eq_true rfl), (Nat.le_of_ble_eq_true rfl), (Nat.le_of_ble_eq_true rfl)⟩ ?_
  show sh_cW _ _ (_, _, []) (sh_u2 (sh_u2 K 18 (6 * s + c) (nI t)) 19 s ((K 19 s) + 1)) L _ _ _ _ _
  refine sh_cp (fun w Z k => sh_aload_n dc_Sync_enqueue_8 rfl rfl k) ?_
  refine sh_cp (fun w Z k => sh_aload_n dc_Sync_enqueue_9 rfl rfl k) ?_
  refine sh_cput (K1 := (sh_u2 (sh_u2 (sh_u2 K 18 (6 * s + c) (nI t)) 19 s ((K 19 s) + 1)) 5 t (nI s))) (L1 := L) (10 + t) 4 dc_Sync_enqueue_10 (cw_ow (by omega)) rfl (by decide) fl_Sync_26 rfl rfl rfl rfl pd_LSync rfl rfl (cq_Worker_5 (by omega) (by omega)) (fun i hi => cw_upI (by decide) hi) ?_
  refine sh_cp (fun w Z k => sh_aload_n dc_Sync_enqueue_13 rfl rfl k) ?_
  refine sh_cp (fun w Z k => sh_iload_n dc_Sync_enqueue_14 rfl rfl k) ?_
  refine sh_cput (K1 := (sh_u2 (sh_u2 (sh_u2 (sh_u2 K 18 (6 * s + c) (nI t)) 19 s ((K 19 s) + 1)) 5 t (nI s)) 6 t m)) (L1 := L) (10 + t) 5 dc_Sync_enqueue_15 (cw_ow (by omega)) rfl (by decide) fl_Sync_32 rfl rfl rfl rfl pd_I rfl rfl (cq_Worker_6 (by omega)) (fun i hi => cw_upI (by decide) hi) ?_
  refine sh_cp (fun w Z k => sh_aload_n dc_Sync_enqueue_18 rfl rfl k) ?_
  refine sh_cp (fun w Z k => sh_dload_n dc_Sync_enqueue_19 rfl rfl k) ?_
  refine sh_cput (K1 := (sh_u2 (sh_u2 (sh_u2 (sh_u2 K 18 (6 * s + c) (nI t)) 19 s ((K 19 s) + 1)) 5 t (nI s)) 6 t m)) (L1 := (sh_u2 L 8 t a)) (10 + t) 8 dc_Sync_enqueue_20 (cw_ow (by omega)) rfl (by decide) fl_Sync_35 rfl rfl rfl rfl pd_D rfl rfl (cq_Worker_8 (by omega)) (fun i hi => cw_upD hi) ?_
  refine sh_cp (fun w Z k => sh_aload_n dc_Sync_enqueue_23 rfl rfl k) ?_
  refine sh_cp (fun w Z k => sh_iconst (v := 0) dc_Sync_enqueue_24 (by decide) k) ?_
  refine sh_cput (K1 := (sh_u2 (sh_u2 (sh_u2 (sh_u2 (sh_u2 K 18 (6 * s + c) (nI t)) 19 s ((K 19 s) + 1)) 5 t (nI s)) 6 t m) 4 t 0)) (L1 := (sh_u2 L 8 t a)) (10 + t) 3 dc_Sync_enqueue_25 (cw_ow (by omega)) rfl (by decide) fl_Sync_39 rfl rfl rfl rfl pd_I rfl rfl (cq_Worker_4 (by omega)) (fun i hi => cw_upI (by decide) hi) ?_
  exact sh_ce (fun w => sh_return dc_Sync_enqueue_28 rfl (by decide) (by decide))
theorem ct_Hall_gateOf_Shared_1 {A : Nat → Nat} {K : sh_II} {L : sh_DD} {s : Nat} (hs : s < 8) (hk_s : cw_cl (K 12 s) = 7) : sh_cM A md_Hall_gateOf [.ref (A (20 + s))] K L (.inl (some (.ref (A (20 + s))))) K L := by
  refine sh_cp (fun w Z k => sh_aload_n dc_Hall_gateOf_0 rfl rfl k) ?_
  refine sh_cinstY (20 + s) dc_Hall_gateOf_1 wd_473 (cw_oh (by omega) hk_s) rfl (Or.inr wd_1091) ?_
  refine sh_cp (fun w Z k => sh_if_eq (tgt := 14) dc_Hall_gateOf_4 (by decide) (fun z => absurd z (by decide)) (fun _ => k)) ?_
  refine sh_cp (fun w Z k => sh_aload_n dc_Hall_gateOf_7 rfl rfl k) ?_
  refine sh_ccastY (20 + s) dc_Hall_gateOf_8 wd_473 (cw_oh (by omega) hk_s) rfl (Or.inr wd_1091) ?_
  refine sh_cp (fun w Z k => sh_astore_n dc_Hall_gateOf_11 rfl (by decide) k) ?_
  refine sh_cp (fun w Z k => sh_aload_n dc_Hall_gateOf_12 rfl rfl k) ?_
  exact sh_ce (fun w => sh_areturn (v := (some (A (20 + s)))) dc_Hall_gateOf_13 rfl (by decide) (by decide))
theorem ct_Sync_addWaited_Condition_1 {A : Nat → Nat} {K : sh_II} {L : sh_DD} {s : Nat} {x : UInt64} (hs : s < 8) (hk_s : cw_cl (K 12 s) = 8) (v0_6 : vf_n64 (FP.dadd (L 20 s) x)) : sh_cM A md_Sync_addWaited [.ref (A (20 + s)), .double x] K L (.inl none) (sh_u2 K 21 s ((K 21 s) + 1)) (sh_u2 L 20 s (FP.dadd (L 20 s) x)) := by
  refine sh_cp (fun w Z k => sh_aload_n dc_Sync_addWaited_0 rfl rfl k) ?_
  refine sh_cp (fun w Z k => sh_aload_n dc_Sync_addWaited_1 rfl rfl k) ?_
  refine sh_cget (20 + s) 2 dc_Sync_addWaited_2 (cw_oc (by omega) hk_s) rfl (by decide) fl_Sync_49 rfl rfl rfl rfl ?_
  refine sh_cp (fun w Z k => sh_dload_n dc_Sync_addWaited_5 rfl rfl k) ?_
  refine sh_cp (fun w Z k => sh_dadd dc_Sync_addWaited_6 v0_6 k) ?_
  refine sh_cput (K1 := K) (L1 := (sh_u2 L 20 s (FP.dadd (L 20 s) x))) (20 + s) 2 dc_Sync_addWaited_7 (cw_oc (by omega) hk_s) rfl (by decide) fl_Sync_49 rfl rfl rfl rfl pd_D rfl rfl (cq_Condition_20 (by omega) hk_s) (fun i hi => cw_upD hi) ?_
  refine sh_cp (fun w Z k => sh_aload_n dc_Sync_addWaited_10 rfl rfl k) ?_
  refine sh_cp (fun w Z k => sh_dup dc_Sync_addWaited_11 rfl k) ?_
  refine sh_cget (20 + s) 3 dc_Sync_addWaited_12 (cw_oc (by omega) hk_s) rfl (by decide) fl_Sync_52 rfl rfl rfl rfl ?_
  refine sh_cp (fun w Z k => sh_iconst (v := 1) dc_Sync_addWaited_15 (by decide) k) ?_
  refine sh_cp (fun w Z k => sh_iadd dc_Sync_addWaited_16 k) ?_
  refine sh_cput (K1 := (sh_u2 K 21 s ((K 21 s) + 1))) (L1 := (sh_u2 L 20 s (FP.dadd (L 20 s) x))) (20 + s) 3 dc_Sync_addWaited_17 (cw_oc (by omega) hk_s) rfl (by decide) fl_Sync_52 rfl rfl rfl rfl pd_I rfl rfl (cq_Condition_21 (by omega) hk_s) (fun i hi => cw_upI (by decide) hi) ?_
  exact sh_ce (fun w => sh_return dc_Sync_addWaited_20 rfl (by decide) (by decide))
theorem ct_Sync_amount_Condition_1 {A : Nat → Nat} {K : sh_II} {L : sh_DD} {s : Nat} (hs : s < 8) (hk_s : cw_cl (K 12 s) = 8) : sh_cM A md_Sync_amount [.ref (A (20 + s))] K L (.inl (some (.int 0))) K L := by
  refine sh_cp (fun w Z k => sh_iconst (v := 0) dc_Sync_amount_0 (by decide) k) ?_
  exact sh_ce (fun w => sh_ireturn dc_Sync_amount_1 rfl rfl (by decide) (by decide))
theorem ct_Sync_holdOf_Condition_1 {A : Nat → Nat} {K : sh_II} {L : sh_DD} {t : Nat} {s : Nat} (ht : t < 6) (hs : s < 8) (hk_s : cw_cl (K 12 s) = 8) : sh_cM A md_Sync_holdOf [.ref (A (20 + s)), .ref (A (10 + t))] K L (.inl (some (.int 0))) K L := by
  refine sh_cp (fun w Z k => sh_iconst (v := 0) dc_Sync_holdOf_0 (by decide) k) ?_
  exact sh_ce (fun w => sh_ireturn dc_Sync_holdOf_1 rfl rfl (by decide) (by decide))
theorem ct_Sync_enqueue_Condition_1 {A : Nat → Nat} {K : sh_II} {L : sh_DD} {t : Nat} {s : Nat} {m : Int32} {a : UInt64} {c : Nat} (ht : t < 6) (hs : s < 8) (hc : c < 6) (ec : K 19 s = nI c) (hk_s : cw_cl (K 12 s) = 8) : sh_cM A md_Sync_enqueue [.ref (A (20 + s)), .ref (A (10 + t)), .int m, .double a] K L (.inl none) (sh_u2 (sh_u2 (sh_u2 (sh_u2 (sh_u2 K 18 (6 * s + c) (nI t)) 19 s ((K 19 s) + 1)) 5 t (nI s)) 6 t m) 4 t 0) (sh_u2 L 8 t a) := by
  refine sh_cp (fun w Z k => sh_aload_n dc_Sync_enqueue_0 rfl rfl k) ?_
  refine sh_cget (20 + s) 1 dc_Sync_enqueue_1 (cw_oc (by omega) hk_s) rfl (by decide) fl_Sync_18 rfl rfl rfl rfl ?_
  refine sh_cp (fun w Z k => sh_aload_n dc_Sync_enqueue_4 rfl rfl k) ?_
  refine sh_ccall (fun w hw => sh_virt (As := [.ref (A (10 + t))]) dc_Sync_enqueue_5 lm_Waiters_add ln_Sync_22 wd_615 wd_16 rfl rfl (Nat.le_of_ble_eq_true rfl) (hw _ _ (cw_ot (by omega) (cw_nz hk_s (by decide)))) rfl) (ct_Waiters_add_1 (s := s) (t := t) (c := c) (by omega) (by omega) (cw_nz hk_s (by decide)) (by omega) ec) ⟨(Nat.le_of_ble_eq_true rfl), (Nat.le_of_ble_eq_true rfl), (Nat.le_of_ble_eq_true rfl), (Nat.le_of_ble_eq_true rfl)⟩ ?_
  show sh_cW _ _ (_, _, []) (sh_u2 (sh_u2 K 18 (6 * s + c) (nI t)) 19 s ((K 19 s) + 1)) L _ _ _ _ _
  refine sh_cp (fun w Z k => sh_aload_n dc_Sync_enqueue_8 rfl rfl k) ?_
  refine sh_cp (fun w Z k => sh_aload_n dc_Sync_enqueue_9 rfl rfl k) ?_
  refine sh_cput (K1 := (sh_u2 (sh_u2 (sh_u2 K 18 (6 * s + c) (nI t)) 19 s ((K 19 s) + 1)) 5 t (nI s))) (L1 := L) (10 + t) 4 dc_Sync_enqueue_10 (cw_ow (by omega)) rfl (by decide) fl_Sync_26 rfl rfl rfl rfl pd_LSync rfl rfl (cq_Worker_5 (by omega) (by omega)) (fun i hi => cw_upI (by decide) hi) ?_
  refine sh_cp (fun w Z k => sh_aload_n dc_Sync_enqueue_13 rfl rfl k) ?_
  refine sh_cp (fun w Z k => sh_iload_n dc_Sync_enqueue_14 rfl rfl k) ?_
  refine sh_cput (K1 := (sh_u2 (sh_u2 (sh_u2 (sh_u2 K 18 (6 * s + c) (nI t)) 19 s ((K 19 s) + 1)) 5 t (nI s)) 6 t m)) (L1 := L) (10 + t) 5 dc_Sync_enqueue_15 (cw_ow (by omega)) rfl (by decide) fl_Sync_32 rfl rfl rfl rfl pd_I rfl rfl (cq_Worker_6 (by omega)) (fun i hi => cw_upI (by decide) hi) ?_
  refine sh_cp (fun w Z k => sh_aload_n dc_Sync_enqueue_18 rfl rfl k) ?_
  refine sh_cp (fun w Z k => sh_dload_n dc_Sync_enqueue_19 rfl rfl k) ?_
  refine sh_cput (K1 := (sh_u2 (sh_u2 (sh_u2 (sh_u2 K 18 (6 * s + c) (nI t)) 19 s ((K 19 s) + 1)) 5 t (nI s)) 6 t m)) (L1 := (sh_u2 L 8 t a)) (10 + t) 8 dc_Sync_enqueue_20 (cw_ow (by omega)) rfl (by decide) fl_Sync_35 rfl rfl rfl rfl pd_D rfl rfl (cq_Worker_8 (by omega)) (fun i hi => cw_upD hi) ?_
  refine sh_cp (fun w Z k => sh_aload_n dc_Sync_enqueue_23 rfl rfl k) ?_
  refine sh_cp (fun w Z k => sh_iconst (v := 0) dc_Sync_enqueue_24 (by decide) k) ?_
  refine sh_cput (K1 := (sh_u2 (sh_u2 (sh_u2 (sh_u2 (sh_u2 K 18 (6 * s + c) (nI t)) 19 s ((K 19 s) + 1)) 5 t (nI s)) 6 t m) 4 t 0)) (L1 := (sh_u2 L 8 t a)) (10 + t) 3 dc_Sync_enqueue_25 (cw_ow (by omega)) rfl (by decide) fl_Sync_39 rfl rfl rfl rfl pd_I rfl rfl (cq_Worker_4 (by omega)) (fun i hi => cw_upI (by decide) hi) ?_
  exact sh_ce (fun w => sh_return dc_Sync_enqueue_28 rfl (by decide) (by decide))
theorem ct_Hall_gateOf_Condition_1 {A : Nat → Nat} {K : sh_II} {L : sh_DD} {s : Nat} (hs : s < 8) (hk_s : cw_cl (K 12 s) = 8) : sh_cM A md_Hall_gateOf [.ref (A (20 + s))] K L (.inr 4) K L := by
  refine sh_cp (fun w Z k => sh_aload_n dc_Hall_gateOf_0 rfl rfl k) ?_
  refine sh_cinstNo (20 + s) dc_Hall_gateOf_1 wd_473 (cw_oc (by omega) hk_s) rfl wn_78 ?_
  refine sh_cp (fun w Z k => sh_if_eq (tgt := 14) dc_Hall_gateOf_4 (by decide) (fun _ => k) (fun z => absurd (by decide) z)) ?_
  exact sh_ct (fun w => sh_thr (lx := 2) (tx := "a condition is not taken or given back") dc_Hall_gateOf_14 dc_Hall_gateOf_17 (Or.inl ⟨dc_Hall_gateOf_18, rfl⟩) dc_Hall_gateOf_20 dc_Hall_gateOf_23 lx_Hall_243_247 (by decide +kernel) rfl (by decide) (by decide) (by decide) (by decide))
theorem ct_Gate_next_Lock_1 {A : Nat → Nat} {K : sh_II} {L : sh_DD} {s : Nat} (hs : s < 8) (hk_s : cw_cl (K 12 s) = 4) (c0_5 : (K 19 s) ≤ 0) : sh_cM A md_Gate_next [.ref (A (20 + s))] K L (.inl (some (.null))) K L := by
  refine sh_cp (fun w Z k => sh_aload_n dc_Gate_next_0 rfl rfl k) ?_
  refine sh_cget (20 + s) 1 dc_Gate_next_1 (cw_ol (by omega) hk_s) rfl (by decide) fl_Gate_7 rfl rfl rfl rfl ?_
  refine sh_cp (fun w Z k => sh_iconst (v := 0) dc_Gate_next_4 (by decide) k) ?_
  refine sh_ccall (fun w hw => sh_virt (As := [.int 0]) dc_Gate_next_5 lm_Waiters_at ln_Gate_13 wd_690 wd_22 rfl rfl (Nat.le_of_ble_eq_true rfl) (hw _ _ (cw_ot (by omega) (cw_nz hk_s (by decide)))) rfl) (ct_Waiters_at_0_1 (s := s) (by omega) (cw_nz hk_s (by decide)) c0_5) ⟨(Nat.le_of_ble_eq_true rfl), (Nat.le_of_ble_eq_true rfl), (Nat.le_of_ble_eq_true rfl), (Nat.le_of_ble_eq_true rfl)⟩ ?_
  show sh_cW _ _ (_, _, [.null]) K L _ _ _ _ _
  exact sh_ce (fun w => sh_areturn (v := none) dc_Gate_next_8 rfl (by decide) (by decide))
theorem ct_Gate_next_Lock_2 {A : Nat → Nat} {K : sh_II} {L : sh_DD} {s : Nat} (hs : s < 8) (hk_s : cw_cl (K 12 s) = 4) (c0_5 : ¬ (K 19 s) ≤ 0) (c1_5 : (K 18 (6 * s + 0)) = -1) : sh_cM A md_Gate_next [.ref (A (20 + s))] K L (.inl (some (.null))) K L := by
  refine sh_cp (fun w Z k => sh_aload_n dc_Gate_next_0 rfl rfl k) ?_
  refine sh_cget (20 + s) 1 dc_Gate_next_1 (cw_ol (by omega) hk_s) rfl (by decide) fl_Gate_7 rfl rfl rfl rfl ?_
  refine sh_cp (fun w Z k => sh_iconst (v := 0) dc_Gate_next_4 (by decide) k) ?_
  refine sh_ccall (fun w hw => sh_virt (As := [.int 0]) dc_Gate_next_5 lm_Waiters_at ln_Gate_13 wd_690 wd_22 rfl rfl (Nat.le_of_ble_eq_true rfl) (hw _ _ (cw_ot (by omega) (cw_nz hk_s (by decide)))) rfl) (ct_Waiters_at_0_2 (s := s) (by omega) (cw_nz hk_s (by decide)) c0_5 c1_5) ⟨(Nat.le_of_ble_eq_true rfl), (Nat.le_of_ble_eq_true rfl), (Nat.le_of_ble_eq_true rfl), (Nat.le_of_ble_eq_true rfl)⟩ ?_
  show sh_cW _ _ (_, _, [.null]) K L _ _ _ _ _
  exact sh_ce (fun w => sh_areturn (v := none) dc_Gate_next_8 rfl (by decide) (by decide))
theorem ct_Gate_next_Lock_3 {A : Nat → Nat} {K : sh_II} {L : sh_DD} {s : Nat} {u18_5 : Nat} (hs : s < 8) (hk_s : cw_cl (K 12 s) = 4) (c0_5 : ¬ (K 19 s) ≤ 0) (hu18_5 : u18_5 < 6) (c2_5 : (K 18 (6 * s + 0)) = nI u18_5) : sh_cM A md_Gate_next [.ref (A (20 + s))] K L (.inl (some (.ref (A (10 + u18_5))))) K L := by
  refine sh_cp (fun w Z k => sh_aload_n dc_Gate_next_0 rfl rfl k) ?_
  refine sh_cget (20 + s) 1 dc_Gate_next_1 (cw_ol (by omega) hk_s) rfl (by decide) fl_Gate_7 rfl rfl rfl rfl ?_
  refine sh_cp (fun w Z k => sh_iconst (v := 0) dc_Gate_next_4 (by decide) k) ?_
  refine sh_ccall (fun w hw => sh_virt (As := [.int 0]) dc_Gate_next_5 lm_Waiters_at ln_Gate_13 wd_690 wd_22 rfl rfl (Nat.le_of_ble_eq_true rfl) (hw _ _ (cw_ot (by omega) (cw_nz hk_s (by decide)))) rfl) (ct_Waiters_at_0_3 (s := s) (u18_17 := u18_5) (by omega) (cw_nz hk_s (by decide)) c0_5 (by omega) c2_5) ⟨(Nat.le_of_ble_eq_true rfl), (Nat.le_of_ble_eq_true rfl), (Nat.le_of_ble_eq_true rfl), (Nat.le_of_ble_eq_true rfl)⟩ ?_
  show sh_cW _ _ (_, _, [.ref (A (10 + u18_5))]) K L _ _ _ _ _
  exact sh_ce (fun w => sh_areturn (v := (some (A (10 + u18_5)))) dc_Gate_next_8 rfl (by decide) (by decide))
theorem ct_Gate_next_Latch_1 {A : Nat → Nat} {K : sh_II} {L : sh_DD} {s : Nat} (hs : s < 8) (hk_s : cw_cl (K 12 s) = 6) (c0_5 : (K 19 s) ≤ 0) : sh_cM A md_Gate_next [.ref (A (20 + s))] K L (.inl (some (.null))) K L := by
  refine sh_cp (fun w Z k => sh_aload_n dc_Gate_next_0 rfl rfl k) ?_
  refine sh_cget (20 + s) 1 dc_Gate_next_1 (cw_oa (by omega) hk_s) rfl (by decide) fl_Gate_7 rfl rfl rfl rfl ?_
  refine sh_cp (fun w Z k => sh_iconst (v := 0) dc_Gate_next_4 (by decide) k) ?_
  refine sh_ccall (fun w hw => sh_virt (As := [.int 0]) dc_Gate_next_5 lm_Waiters_at ln_Gate_13 wd_690 wd_22 rfl rfl (Nat.le_of_ble_eq_true rfl) (hw _ _ (cw_ot (by omega) (cw_nz hk_s (by decide)))) rfl) (ct_Waiters_at_0_1 (s := s) (by omega) (cw_nz hk_s (by decide)) c0_5) ⟨(Nat.le_of_ble_eq_true rfl), (Nat.le_of_ble_eq_true rfl), (Nat.le_of_ble_eq_true rfl), (Nat.le_of_ble_eq_true rfl)⟩ ?_
  show sh_cW _ _ (_, _, [.null]) K L _ _ _ _ _
  exact sh_ce (fun w => sh_areturn (v := none) dc_Gate_next_8 rfl (by decide) (by decide))
theorem ct_Gate_next_Latch_2 {A : Nat → Nat} {K : sh_II} {L : sh_DD} {s : Nat} (hs : s < 8) (hk_s : cw_cl (K 12 s) = 6) (c0_5 : ¬ (K 19 s) ≤ 0) (c1_5 : (K 18 (6 * s + 0)) = -1) : sh_cM A md_Gate_next [.ref (A (20 + s))] K L (.inl (some (.null))) K L := by
  refine sh_cp (fun w Z k => sh_aload_n dc_Gate_next_0 rfl rfl k) ?_
  refine sh_cget (20 + s) 1 dc_Gate_next_1 (cw_oa (by omega) hk_s) rfl (by decide) fl_Gate_7 rfl rfl rfl rfl ?_
  refine sh_cp (fun w Z k => sh_iconst (v := 0) dc_Gate_next_4 (by decide) k) ?_
  refine sh_ccall (fun w hw => sh_virt (As := [.int 0]) dc_Gate_next_5 lm_Waiters_at ln_Gate_13 wd_690 wd_22 rfl rfl (Nat.le_of_ble_eq_true rfl) (hw _ _ (cw_ot (by omega) (cw_nz hk_s (by decide)))) rfl) (ct_Waiters_at_0_2 (s := s) (by omega) (cw_nz hk_s (by decide)) c0_5 c1_5) ⟨(Nat.le_of_ble_eq_true rfl), (Nat.le_of_ble_eq_true rfl), (Nat.le_of_ble_eq_true rfl), (Nat.le_of_ble_eq_true rfl)⟩ ?_
  show sh_cW _ _ (_, _, [.null]) K L _ _ _ _ _
  exact sh_ce (fun w => sh_areturn (v := none) dc_Gate_next_8 rfl (by decide) (by decide))
theorem ct_Gate_next_Latch_3 {A : Nat → Nat} {K : sh_II} {L : sh_DD} {s : Nat} {u18_5 : Nat} (hs : s < 8) (hk_s : cw_cl (K 12 s) = 6) (c0_5 : ¬ (K 19 s) ≤ 0) (hu18_5 : u18_5 < 6) (c2_5 : (K 18 (6 * s + 0)) = nI u18_5) : sh_cM A md_Gate_next [.ref (A (20 + s))] K L (.inl (some (.ref (A (10 + u18_5))))) K L := by
  refine sh_cp (fun w Z k => sh_aload_n dc_Gate_next_0 rfl rfl k) ?_
  refine sh_cget (20 + s) 1 dc_Gate_next_1 (cw_oa (by omega) hk_s) rfl (by decide) fl_Gate_7 rfl rfl rfl rfl ?_
  refine sh_cp (fun w Z k => sh_iconst (v := 0) dc_Gate_next_4 (by decide) k) ?_
  refine sh_ccall (fun w hw => sh_virt (As := [.int 0]) dc_Gate_next_5 lm_Waiters_at ln_Gate_13 wd_690 wd_22 rfl rfl (Nat.le_of_ble_eq_true rfl) (hw _ _ (cw_ot (by omega) (cw_nz hk_s (by decide)))) rfl) (ct_Waiters_at_0_3 (s := s) (u18_17 := u18_5) (by omega) (cw_nz hk_s (by decide)) c0_5 (by omega) c2_5) ⟨(Nat.le_of_ble_eq_true rfl), (Nat.le_of_ble_eq_true rfl), (Nat.le_of_ble_eq_true rfl), (Nat.le_of_ble_eq_true rfl)⟩ ?_
  show sh_cW _ _ (_, _, [.ref (A (10 + u18_5))]) K L _ _ _ _ _
  exact sh_ce (fun w => sh_areturn (v := (some (A (10 + u18_5)))) dc_Gate_next_8 rfl (by decide) (by decide))
theorem ct_Hall_time_1 {A : Nat → Nat} {K : sh_II} {L : sh_DD}  : sh_cM A md_Hall_time [.ref (A 0)] K L (.inl (some (.double (L 11 0)))) K L := by
  refine sh_cp (fun w Z k => sh_aload_n dc_Hall_time_0 rfl rfl k) ?_
  refine sh_cget 0 4 dc_Hall_time_1 cw_o0 rfl (by decide) fl_Hall_35 rfl rfl rfl rfl ?_
  exact sh_ce (fun w => sh_dreturn dc_Hall_time_4 rfl (by decide) (by decide))
theorem ct_Hall_greatestFor_1 {A : Nat → Nat} {K : sh_II} {L : sh_DD} {x : Int32} (c0_1 : x = 2) : sh_cM A md_Hall_greatestFor [.int x] K L (.inl (some (.int 5))) K L := by
  refine sh_cp (fun w Z k => sh_iload_n dc_Hall_greatestFor_0 rfl rfl k) ?_
  refine sh_cti c0_1 ?_
  refine sh_cp (fun w Z k => sh_tableIn (tgt := 36) dc_Hall_greatestFor_1 (by decide) (by decide) rfl (by decide) k) ?_
  refine sh_cp (fun w Z k => sh_iconst (v := 5) dc_Hall_greatestFor_36 (by decide) k) ?_
  exact sh_ce (fun w => sh_ireturn dc_Hall_greatestFor_37 rfl rfl (by decide) (by decide))
theorem ct_Hall_greatestFor_2 {A : Nat → Nat} {K : sh_II} {L : sh_DD} {x : Int32} (c0_1 : x = 3) : sh_cM A md_Hall_greatestFor [.int x] K L (.inl (some (.int 5))) K L := by
  refine sh_cp (fun w Z k => sh_iload_n dc_Hall_greatestFor_0 rfl rfl k) ?_
  refine sh_cti c0_1 ?_
  refine sh_cp (fun w Z k => sh_tableIn (tgt := 36) dc_Hall_greatestFor_1 (by decide) (by decide) rfl (by decide) k) ?_
  refine sh_cp (fun w Z k => sh_iconst (v := 5) dc_Hall_greatestFor_36 (by decide) k) ?_
  exact sh_ce (fun w => sh_ireturn dc_Hall_greatestFor_37 rfl rfl (by decide) (by decide))
theorem ct_Hall_greatestFor_3 {A : Nat → Nat} {K : sh_II} {L : sh_DD} {x : Int32} (c0_1 : x = 4) : sh_cM A md_Hall_greatestFor [.int x] K L (.inl (some (.int 5))) K L := by
  refine sh_cp (fun w Z k => sh_iload_n dc_Hall_greatestFor_0 rfl rfl k) ?_
  refine sh_cti c0_1 ?_
  refine sh_cp (fun w Z k => sh_tableIn (tgt := 36) dc_Hall_greatestFor_1 (by decide) (by decide) rfl (by decide) k) ?_
  refine sh_cp (fun w Z k => sh_iconst (v := 5) dc_Hall_greatestFor_36 (by decide) k) ?_
  exact sh_ce (fun w => sh_ireturn dc_Hall_greatestFor_37 rfl rfl (by decide) (by decide))
theorem ct_Hall_greatestFor_4 {A : Nat → Nat} {K : sh_II} {L : sh_DD} {x : Int32} (c0_1 : x = 5) : sh_cM A md_Hall_greatestFor [.int x] K L (.inl (some (.int 0))) K L := by
  refine sh_cp (fun w Z k => sh_iload_n dc_Hall_greatestFor_0 rfl rfl k) ?_
  refine sh_cti c0_1 ?_
  refine sh_cp (fun w Z k => sh_tableIn (tgt := 41) dc_Hall_greatestFor_1 (by decide) (by decide) rfl (by decide) k) ?_
  refine sh_cp (fun w Z k => sh_iconst (v := 0) dc_Hall_greatestFor_41 (by decide) k) ?_
  exact sh_ce (fun w => sh_ireturn dc_Hall_greatestFor_42 rfl rfl (by decide) (by decide))
theorem ct_Hall_greatestFor_5 {A : Nat → Nat} {K : sh_II} {L : sh_DD} {x : Int32} (c0_1 : x = 6) : sh_cM A md_Hall_greatestFor [.int x] K L (.inl (some (.int 7))) K L := by
  refine sh_cp (fun w Z k => sh_iload_n dc_Hall_greatestFor_0 rfl rfl k) ?_
  refine sh_cti c0_1 ?_
  refine sh_cp (fun w Z k => sh_tableIn (tgt := 38) dc_Hall_greatestFor_1 (by decide) (by decide) rfl (by decide) k) ?_
  refine sh_cp (fun w Z k => sh_bipush (v := 7) dc_Hall_greatestFor_38 (by decide) k) ?_
  exact sh_ce (fun w => sh_ireturn dc_Hall_greatestFor_40 rfl rfl (by decide) (by decide))
theorem ct_Hall_greatestFor_6 {A : Nat → Nat} {K : sh_II} {L : sh_DD} {x : Int32} (c0_1 : x.toInt < 2 ∨ 6 < x.toInt) : sh_cM A md_Hall_greatestFor [.int x] K L (.inl (some (.int 0))) K L := by
  refine sh_cp (fun w Z k => sh_iload_n dc_Hall_greatestFor_0 rfl rfl k) ?_
  refine sh_cp (fun w Z k => sh_tableOut (tgt := 41) dc_Hall_greatestFor_1 c0_1 (by decide) k) ?_
  refine sh_cp (fun w Z k => sh_iconst (v := 0) dc_Hall_greatestFor_41 (by decide) k) ?_
  exact sh_ce (fun w => sh_ireturn dc_Hall_greatestFor_42 rfl rfl (by decide) (by decide))
