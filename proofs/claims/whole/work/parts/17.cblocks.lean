theorem cb_Waiters_remove_p_0_1 {A : Nat → Nat} {K K9 : sh_II} {L L9 : sh_DD} {v9 : Option Value ⊕ Nat} {s : Nat} {t : Nat} (hs : s < 8) (ht : t < 6) (hz : ¬ cw_cl (K 12 s) = 0) (k9 : sh_cW A md_Waiters_remove (4, [(0, .ref (A (30 + s))), (1, .ref (A (10 + t))), (2, .int 0), (3, .int 0)], []) K L 0 0 v9 K9 L9) : sh_cW A md_Waiters_remove (0, [(0, .ref (A (30 + s))), (1, .ref (A (10 + t)))], []) K L 0 0 v9 K9 L9 := by
  refine sh_cp (fun w Z k => sh_iconst (v := 0) dc_Waiters_remove_0 (by decide) k) ?_
  refine sh_cp (fun w Z k => sh_istore_n dc_Waiters_remove_1 rfl (by decide) k) ?_
  refine sh_cp (fun w Z k => sh_iconst (v := 0) dc_Waiters_remove_2 (by decide) k) ?_
  refine sh_cp (fun w Z k => sh_istore_n dc_Waiters_remove_3 rfl (by decide) k) ?_
  refine sh_clv [2, 3, 1, 0] rfl ?_
  exact k9
theorem cb_Waiters_remove_e_4_1 {A : Nat → Nat} {K : sh_II} {L : sh_DD} {s : Nat} {t : Nat} {e : Nat} {i : Nat} (hs : s < 8) (ht : t < 6) (hz : ¬ cw_cl (K 12 s) = 0) (hx : (K 19 s) ≤ (nI i)) : sh_cW A md_Waiters_remove (4, [(0, .ref (A (30 + s))), (1, .ref (A (10 + t))), (2, .int (nI e)), (3, .int (nI i))], []) K L 0 0 (.inl none) (sh_u2 K 19 s (nI e)) L := by
  refine sh_cp (fun w Z k => sh_iload_n dc_Waiters_remove_4 rfl rfl k) ?_
  refine sh_cp (fun w Z k => sh_aload_n dc_Waiters_remove_5 rfl rfl k) ?_
  refine sh_cget (30 + s) 1 dc_Waiters_remove_6 (cw_ot (by omega) hz) rfl (by decide) fl_Waiters_17 rfl rfl rfl rfl ?_
  refine sh_cp (fun w Z k => sh_icmp_ge (tgt := 43) dc_Waiters_remove_9 (by decide) (fun _ => k) (fun z => absurd hx z)) ?_
  refine sh_cp (fun w Z k => sh_aload_n dc_Waiters_remove_43 rfl rfl k) ?_
  refine sh_cp (fun w Z k => sh_iload_n dc_Waiters_remove_44 rfl rfl k) ?_
  refine sh_cput (K1 := (sh_u2 K 19 s (nI e))) (L1 := L) (30 + s) 1 dc_Waiters_remove_45 (cw_ot (by omega) hz) rfl (by decide) fl_Waiters_17 rfl rfl rfl rfl pd_I rfl rfl (cq_Waiters_19 (by omega) hz) (fun i hi => cw_upI (by decide) hi) ?_
  exact sh_ce (fun w => sh_return dc_Waiters_remove_48 rfl (by decide) (by decide))
theorem cb_Waiters_remove_4_1 {A : Nat → Nat} {K K9 : sh_II} {L L9 : sh_DD} {v9 : Option Value ⊕ Nat} {s : Nat} {t : Nat} {e : Nat} {i : Nat} {u : Nat} (hs : s < 8) (ht : t < 6) (hz : ¬ cw_cl (K 12 s) = 0) (hkk : e < 6) (hi : i < 6) (hx : ¬ (K 19 s) ≤ (nI i)) (hu : u < 6) (er : K 18 (6 * s + i) = nI u) (c0_19 : u = t) (k9 : sh_cW A md_Waiters_remove (4, [(0, .ref (A (30 + s))), (1, .ref (A (10 + t))), (2, .int (nI e)), (3, .int (nI (i + 1)))], []) K L 0 0 v9 K9 L9) : sh_cW A md_Waiters_remove (4, [(0, .ref (A (30 + s))), (1, .ref (A (10 + t))), (2, .int (nI e)), (3, .int (nI i))], []) K L 0 0 v9 K9 L9 := by
  refine sh_cp (fun w Z k => sh_iload_n dc_Waiters_remove_4 rfl rfl k) ?_
  refine sh_cp (fun w Z k => sh_aload_n dc_Waiters_remove_5 rfl rfl k) ?_
  refine sh_cget (30 + s) 1 dc_Waiters_remove_6 (cw_ot (by omega) hz) rfl (by decide) fl_Waiters_17 rfl rfl rfl rfl ?_
  refine sh_cp (fun w Z k => sh_icmp_ge (tgt := 43) dc_Waiters_remove_9 (by decide) (fun z => absurd z hx) (fun _ => k)) ?_
  refine sh_cp (fun w Z k => sh_aload_n dc_Waiters_remove_12 rfl rfl k) ?_
  refine sh_cget (30 + s) 0 dc_Waiters_remove_13 (cw_ot (by omega) hz) rfl (by decide) fl_Waiters_11 rfl rfl rfl rfl ?_
  refine sh_cp (fun w Z k => sh_iload_n dc_Waiters_remove_16 rfl rfl k) ?_
  refine sh_caald (40 + s) (k := i) dc_Waiters_remove_17 (cw_or (by omega) hz) rfl rfl (by omega) (by decide) ?_
  refine sh_ctv (cw_rf_n er (by omega)) ?_
  refine sh_cp (fun w Z k => sh_aload_n dc_Waiters_remove_18 rfl rfl k) ?_
  refine sh_cacmp_eq (tgt := 37) dc_Waiters_remove_19 (by decide) (by rw [cw_ow (by omega)]; rfl) (by rw [cw_ow (by omega)]; rfl) (fun _ => ?_) (fun z => absurd (by omega) z)
  refine sh_cp (fun w Z k => sh_iinc (v := nI (i + 1)) dc_Waiters_remove_37 rfl (sh_nadd rfl (rfl : (1 : Int32) = nI 1)) (by decide) k) ?_
  refine sh_cp (fun w Z k => sh_goto_ (tgt := 4) dc_Waiters_remove_40 (by decide) k) ?_
  refine sh_clv [1, 2, 3, 0] rfl ?_
  exact k9
theorem cb_Waiters_remove_4_2 {A : Nat → Nat} {K K9 : sh_II} {L L9 : sh_DD} {v9 : Option Value ⊕ Nat} {s : Nat} {t : Nat} {e : Nat} {i : Nat} {u : Nat} (hs : s < 8) (ht : t < 6) (hz : ¬ cw_cl (K 12 s) = 0) (hkk : e < 6) (hi : i < 6) (hx : ¬ (K 19 s) ≤ (nI i)) (hu : u < 6) (er : K 18 (6 * s + i) = nI u) (c0_19 : ¬ u = t) (k9 : sh_cW A md_Waiters_remove (4, [(0, .ref (A (30 + s))), (1, .ref (A (10 + t))), (2, .int (nI (e + 1))), (3, .int (nI (i + 1)))], []) (sh_u2 K 18 (6 * s + e) (nI u)) L 0 0 v9 K9 L9) : sh_cW A md_Waiters_remove (4, [(0, .ref (A (30 + s))), (1, .ref (A (10 + t))), (2, .int (nI e)), (3, .int (nI i))], []) K L 0 0 v9 K9 L9 := by
  refine sh_cp (fun w Z k => sh_iload_n dc_Waiters_remove_4 rfl rfl k) ?_
  refine sh_cp (fun w Z k => sh_aload_n dc_Waiters_remove_5 rfl rfl k) ?_
  refine sh_cget (30 + s) 1 dc_Waiters_remove_6 (cw_ot (by omega) hz) rfl (by decide) fl_Waiters_17 rfl rfl rfl rfl ?_
  refine sh_cp (fun w Z k => sh_icmp_ge (tgt := 43) dc_Waiters_remove_9 (by decide) (fun z => absurd z hx) (fun _ => k)) ?_
  refine sh_cp (fun w Z k => sh_aload_n dc_Waiters_remove_12 rfl rfl k) ?_
  refine sh_cget (30 + s) 0 dc_Waiters_remove_13 (cw_ot (by omega) hz) rfl (by decide) fl_Waiters_11 rfl rfl rfl rfl ?_
  refine sh_cp (fun w Z k => sh_iload_n dc_Waiters_remove_16 rfl rfl k) ?_
  refine sh_caald (40 + s) (k := i) dc_Waiters_remove_17 (cw_or (by omega) hz) rfl rfl (by omega) (by decide) ?_
  refine sh_ctv (cw_rf_n er (by omega)) ?_
  refine sh_cp (fun w Z k => sh_aload_n dc_Waiters_remove_18 rfl rfl k) ?_
  refine sh_cacmp_eq (tgt := 37) dc_Waiters_remove_19 (by decide) (by rw [cw_ow (by omega)]; rfl) (by rw [cw_ow (by omega)]; rfl) (fun z => absurd z (by omega)) (fun _ => ?_)
  refine sh_cp (fun w Z k => sh_aload_n dc_Waiters_remove_22 rfl rfl k) ?_
  refine sh_cget (30 + s) 0 dc_Waiters_remove_23 (cw_ot (by omega) hz) rfl (by decide) fl_Waiters_11 rfl rfl rfl rfl ?_
  refine sh_cp (fun w Z k => sh_iload_n dc_Waiters_remove_26 rfl rfl k) ?_
  refine sh_cp (fun w Z k => sh_aload_n dc_Waiters_remove_27 rfl rfl k) ?_
  refine sh_cget (30 + s) 0 dc_Waiters_remove_28 (cw_ot (by omega) hz) rfl (by decide) fl_Waiters_11 rfl rfl rfl rfl ?_
  refine sh_cp (fun w Z k => sh_iload_n dc_Waiters_remove_31 rfl rfl k) ?_
  refine sh_caald (40 + s) (k := i) dc_Waiters_remove_32 (cw_or (by omega) hz) rfl rfl (by omega) (by decide) ?_
  refine sh_ctv (cw_rf_n er (by omega)) ?_
  refine sh_caast (K1 := (sh_u2 K 18 (6 * s + e) (nI u))) (L1 := L) (40 + s) (10 + u) (k := e) dc_Waiters_remove_33 (cw_or (by omega) hz) rfl rfl (by omega) (by decide) (cw_ow (by omega)) rfl (Or.inl rfl) (cq_rw_18 (by omega) hz (by omega) (by omega)) (fun i hi => cw_upI (by decide) (by show i ≠ 40 + _ / 6; omega)) ?_
  refine sh_cp (fun w Z k => sh_iinc (v := nI (e + 1)) dc_Waiters_remove_34 rfl (sh_nadd rfl (rfl : (1 : Int32) = nI 1)) (by decide) k) ?_
  refine sh_cp (fun w Z k => sh_iinc (v := nI (i + 1)) dc_Waiters_remove_37 rfl (sh_nadd rfl (rfl : (1 : Int32) = nI 1)) (by decide) k) ?_
  refine sh_cp (fun w Z k => sh_goto_ (tgt := 4) dc_Waiters_remove_40 (by decide) k) ?_
  refine sh_clv [2, 3, 1, 0] rfl ?_
  exact k9
theorem cb_Waiters_firstToWrite_p_0_1 {A : Nat → Nat} {K K9 : sh_II} {L L9 : sh_DD} {v9 : Option Value ⊕ Nat} {s : Nat} (hs : s < 8) (hz : ¬ cw_cl (K 12 s) = 0) (k9 : sh_cW A md_Waiters_firstToWrite (2, [(0, .ref (A (30 + s))), (1, .int 0)], []) K L 0 0 v9 K9 L9) : sh_cW A md_Waiters_firstToWrite (0, [(0, .ref (A (30 + s)))], []) K L 0 0 v9 K9 L9 := by
  refine sh_cp (fun w Z k => sh_iconst (v := 0) dc_Waiters_firstToWrite_0 (by decide) k) ?_
  refine sh_cp (fun w Z k => sh_istore_n dc_Waiters_firstToWrite_1 rfl (by decide) k) ?_
  refine sh_clv [1, 0] rfl ?_
  exact k9
theorem cb_Waiters_firstToWrite_e_2_1 {A : Nat → Nat} {K : sh_II} {L : sh_DD} {s : Nat} {i : Nat} (hs : s < 8) (hz : ¬ cw_cl (K 12 s) = 0) (hx : (K 19 s) ≤ (nI i)) : sh_cW A md_Waiters_firstToWrite (2, [(0, .ref (A (30 + s))), (1, .int (nI i))], []) K L 0 0 (.inl (some (.null))) K L := by
  refine sh_cp (fun w Z k => sh_iload_n dc_Waiters_firstToWrite_2 rfl rfl k) ?_
  refine sh_cp (fun w Z k => sh_aload_n dc_Waiters_firstToWrite_3 rfl rfl k) ?_
  refine sh_cget (30 + s) 1 dc_Waiters_firstToWrite_4 (cw_ot (by omega) hz) rfl (by decide) fl_Waiters_17 rfl rfl rfl rfl ?_
  refine sh_cp (fun w Z k => sh_icmp_ge (tgt := 36) dc_Waiters_firstToWrite_7 (by decide) (fun _ => k) (fun z => absurd hx z)) ?_
  refine sh_cp (fun w Z k => sh_anull dc_Waiters_firstToWrite_36 k) ?_
  exact sh_ce (fun w => sh_areturn (v := none) dc_Waiters_firstToWrite_37 rfl (by decide) (by decide))
theorem cb_Waiters_firstToWrite_2_1 {A : Nat → Nat} {K : sh_II} {L : sh_DD} {s : Nat} {i : Nat} {u : Nat} (hs : s < 8) (hz : ¬ cw_cl (K 12 s) = 0) (hi : i < 6) (hx : ¬ (K 19 s) ≤ (nI i)) (hu : u < 6) (er : K 18 (6 * s + i) = nI u) (c0_20 : (K 6 u) = 1) : sh_cW A md_Waiters_firstToWrite (2, [(0, .ref (A (30 + s))), (1, .int (nI i))], []) K L 0 0 (.inl (some (.ref (A (10 + u))))) K L := by
  refine sh_cp (fun w Z k => sh_iload_n dc_Waiters_firstToWrite_2 rfl rfl k) ?_
  refine sh_cp (fun w Z k => sh_aload_n dc_Waiters_firstToWrite_3 rfl rfl k) ?_
  refine sh_cget (30 + s) 1 dc_Waiters_firstToWrite_4 (cw_ot (by omega) hz) rfl (by decide) fl_Waiters_17 rfl rfl rfl rfl ?_
  refine sh_cp (fun w Z k => sh_icmp_ge (tgt := 36) dc_Waiters_firstToWrite_7 (by decide) (fun z => absurd z hx) (fun _ => k)) ?_
  refine sh_cp (fun w Z k => sh_aload_n dc_Waiters_firstToWrite_10 rfl rfl k) ?_
  refine sh_cget (30 + s) 0 dc_Waiters_firstToWrite_11 (cw_ot (by omega) hz) rfl (by decide) fl_Waiters_11 rfl rfl rfl rfl ?_
  refine sh_cp (fun w Z k => sh_iload_n dc_Waiters_firstToWrite_14 rfl rfl k) ?_
  refine sh_caald (40 + s) (k := i) dc_Waiters_firstToWrite_15 (cw_or (by omega) hz) rfl rfl (by omega) (by decide) ?_
  refine sh_ctv (cw_rf_n er (by omega)) ?_
  refine sh_cget (10 + u) 5 dc_Waiters_firstToWrite_16 (cw_ow (by omega)) rfl (by decide) fl_Waiters_21 rfl rfl rfl rfl ?_
  refine sh_cp (fun w Z k => sh_iconst (v := 1) dc_Waiters_firstToWrite_19 (by decide) k) ?_
  refine sh_cp (fun w Z k => sh_icmp_ne (tgt := 30) dc_Waiters_firstToWrite_20 (by decide) (fun z => absurd c0_20 z) (fun _ => k)) ?_
  refine sh_cp (fun w Z k => sh_aload_n dc_Waiters_firstToWrite_23 rfl rfl k) ?_
  refine sh_cget (30 + s) 0 dc_Waiters_firstToWrite_24 (cw_ot (by omega) hz) rfl (by decide) fl_Waiters_11 rfl rfl rfl rfl ?_
  refine sh_cp (fun w Z k => sh_iload_n dc_Waiters_firstToWrite_27 rfl rfl k) ?_
  refine sh_caald (40 + s) (k := i) dc_Waiters_firstToWrite_28 (cw_or (by omega) hz) rfl rfl (by omega) (by decide) ?_
  refine sh_ctv (cw_rf_n er (by omega)) ?_
  exact sh_ce (fun w => sh_areturn (v := (some (A (10 + u)))) dc_Waiters_firstToWrite_29 rfl (by decide) (by decide))
theorem cb_Waiters_firstToWrite_2_2 {A : Nat → Nat} {K K9 : sh_II} {L L9 : sh_DD} {v9 : Option Value ⊕ Nat} {s : Nat} {i : Nat} {u : Nat} (hs : s < 8) (hz : ¬ cw_cl (K 12 s) = 0) (hi : i < 6) (hx : ¬ (K 19 s) ≤ (nI i)) (hu : u < 6) (er : K 18 (6 * s + i) = nI u) (c0_20 : ¬ (K 6 u) = 1) (k9 : sh_cW A md_Waiters_firstToWrite (2, [(0, .ref (A (30 + s))), (1, .int (nI (i + 1)))], []) K L 0 0 v9 K9 L9) : sh_cW A md_Waiters_firstToWrite (2, [(0, .ref (A (30 + s))), (1, .int (nI i))], []) K L 0 0 v9 K9 L9 := by
  refine sh_cp (fun w Z k => sh_iload_n dc_Waiters_firstToWrite_2 rfl rfl k) ?_
  refine sh_cp (fun w Z k => sh_aload_n dc_Waiters_firstToWrite_3 rfl rfl k) ?_
  refine sh_cget (30 + s) 1 dc_Waiters_firstToWrite_4 (cw_ot (by omega) hz) rfl (by decide) fl_Waiters_17 rfl rfl rfl rfl ?_
  refine sh_cp (fun w Z k => sh_icmp_ge (tgt := 36) dc_Waiters_firstToWrite_7 (by decide) (fun z => absurd z hx) (fun _ => k)) ?_
  refine sh_cp (fun w Z k => sh_aload_n dc_Waiters_firstToWrite_10 rfl rfl k) ?_
  refine sh_cget (30 + s) 0 dc_Waiters_firstToWrite_11 (cw_ot (by omega) hz) rfl (by decide) fl_Waiters_11 rfl rfl rfl rfl ?_
  refine sh_cp (fun w Z k => sh_iload_n dc_Waiters_firstToWrite_14 rfl rfl k) ?_
  refine sh_caald (40 + s) (k := i) dc_Waiters_firstToWrite_15 (cw_or (by omega) hz) rfl rfl (by omega) (by decide) ?_
  refine sh_ctv (cw_rf_n er (by omega)) ?_
  refine sh_cget (10 + u) 5 dc_Waiters_firstToWrite_16 (cw_ow (by omega)) rfl (by decide) fl_Waiters_21 rfl rfl rfl rfl ?_
  refine sh_cp (fun w Z k => sh_iconst (v := 1) dc_Waiters_firstToWrite_19 (by decide) k) ?_
  refine sh_cp (fun w Z k => sh_icmp_ne (tgt := 30) dc_Waiters_firstToWrite_20 (by decide) (fun _ => k) (fun z => absurd z c0_20)) ?_
  refine sh_cp (fun w Z k => sh_iinc (v := nI (i + 1)) dc_Waiters_firstToWrite_30 rfl (sh_nadd rfl (rfl : (1 : Int32) = nI 1)) (by decide) k) ?_
  refine sh_cp (fun w Z k => sh_goto_ (tgt := 2) dc_Waiters_firstToWrite_33 (by decide) k) ?_
  refine sh_clv [1, 0] rfl ?_
  exact k9
theorem cb_Waiters_firstOfGreatestPriority_p_0_1 {A : Nat → Nat} {K K9 : sh_II} {L L9 : sh_DD} {v9 : Option Value ⊕ Nat} {s : Nat} (hs : s < 8) (hz : ¬ cw_cl (K 12 s) = 0) (c0_2 : (K 19 s) ≤ 0) (k9 : sh_cW A md_Waiters_firstOfGreatestPriority (8, [(0, .ref (A (30 + s))), (1, .null), (2, .int 1)], []) K L 0 0 v9 K9 L9) : sh_cW A md_Waiters_firstOfGreatestPriority (0, [(0, .ref (A (30 + s)))], []) K L 0 0 v9 K9 L9 := by
  refine sh_cp (fun w Z k => sh_aload_n dc_Waiters_firstOfGreatestPriority_0 rfl rfl k) ?_
  refine sh_cp (fun w Z k => sh_iconst (v := 0) dc_Waiters_firstOfGreatestPriority_1 (by decide) k) ?_
  refine sh_ccall (fun w hw => sh_virt (As := [.int 0]) dc_Waiters_firstOfGreatestPriority_2 lm_Waiters_at ln_Waiters_24 wd_690 wd_22 rfl rfl (Nat.le_of_ble_eq_true rfl) (hw _ _ (cw_ot (by omega) hz)) rfl) (ct_Waiters_at_0_1 (s := s) (by omega) hz c0_2) ⟨(Nat.le_of_ble_eq_true rfl), (Nat.le_of_ble_eq_true rfl), (Nat.le_of_ble_eq_true rfl), (Nat.le_of_ble_eq_true rfl)⟩ ?_
  show sh_cW _ _ (_, _, [.null]) K L _ _ _ _ _
  refine sh_cp (fun w Z k => sh_astore_nN dc_Waiters_firstOfGreatestPriority_5 rfl (by decide) k) ?_
  refine sh_cp (fun w Z k => sh_iconst (v := 1) dc_Waiters_firstOfGreatestPriority_6 (by decide) k) ?_
  refine sh_cp (fun w Z k => sh_istore_n dc_Waiters_firstOfGreatestPriority_7 rfl (by decide) k) ?_
  refine sh_clv [2, 1, 0] rfl ?_
  exact k9
theorem cb_Waiters_firstOfGreatestPriority_p_0_2 {A : Nat → Nat} {K K9 : sh_II} {L L9 : sh_DD} {v9 : Option Value ⊕ Nat} {s : Nat} (hs : s < 8) (hz : ¬ cw_cl (K 12 s) = 0) (c0_2 : ¬ (K 19 s) ≤ 0) (c1_2 : (K 18 (6 * s + 0)) = -1) (k9 : sh_cW A md_Waiters_firstOfGreatestPriority (8, [(0, .ref (A (30 + s))), (1, .null), (2, .int 1)], []) K L 0 0 v9 K9 L9) : sh_cW A md_Waiters_firstOfGreatestPriority (0, [(0, .ref (A (30 + s)))], []) K L 0 0 v9 K9 L9 := by
  refine sh_cp (fun w Z k => sh_aload_n dc_Waiters_firstOfGreatestPriority_0 rfl rfl k) ?_
  refine sh_cp (fun w Z k => sh_iconst (v := 0) dc_Waiters_firstOfGreatestPriority_1 (by decide) k) ?_
  refine sh_ccall (fun w hw => sh_virt (As := [.int 0]) dc_Waiters_firstOfGreatestPriority_2 lm_Waiters_at ln_Waiters_24 wd_690 wd_22 rfl rfl (Nat.le_of_ble_eq_true rfl) (hw _ _ (cw_ot (by omega) hz)) rfl) (ct_Waiters_at_0_2 (s := s) (by omega) hz c0_2 c1_2) ⟨(Nat.le_of_ble_eq_true rfl), (Nat.le_of_ble_eq_true rfl), (Nat.le_of_ble_eq_true rfl), (Nat.le_of_ble_eq_true rfl)⟩ ?_
  show sh_cW _ _ (_, _, [.null]) K L _ _ _ _ _
  refine sh_cp (fun w Z k => sh_astore_nN dc_Waiters_firstOfGreatestPriority_5 rfl (by decide) k) ?_
  refine sh_cp (fun w Z k => sh_iconst (v := 1) dc_Waiters_firstOfGreatestPriority_6 (by decide) k) ?_
  refine sh_cp (fun w Z k => sh_istore_n dc_Waiters_firstOfGreatestPriority_7 rfl (by decide) k) ?_
  refine sh_clv [2, 1, 0] rfl ?_
  exact k9
theorem cb_Waiters_firstOfGreatestPriority_p_0_3 {A : Nat → Nat} {K K9 : sh_II} {L L9 : sh_DD} {v9 : Option Value ⊕ Nat} {s : Nat} {u18_2 : Nat} (hs : s < 8) (hz : ¬ cw_cl (K 12 s) = 0) (c0_2 : ¬ (K 19 s) ≤ 0) (hu18_2 : u18_2 < 6) (c2_2 : (K 18 (6 * s + 0)) = nI u18_2) (k9 : sh_cW A md_Waiters_firstOfGreatestPriority (8, [(0, .ref (A (30 + s))), (1, .ref (A (10 + u18_2))), (2, .int 1)], []) K L 0 0 v9 K9 L9) : sh_cW A md_Waiters_firstOfGreatestPriority (0, [(0, .ref (A (30 + s)))], []) K L 0 0 v9 K9 L9 := by
  refine sh_cp (fun w Z k => sh_aload_n dc_Waiters_firstOfGreatestPriority_0 rfl rfl k) ?_
  refine sh_cp (fun w Z k => sh_iconst (v := 0) dc_Waiters_firstOfGreatestPriority_1 (by decide) k) ?_
  refine sh_ccall (fun w hw => sh_virt (As := [.int 0]) dc_Waiters_firstOfGreatestPriority_2 lm_Waiters_at ln_Waiters_24 wd_690 wd_22 rfl rfl (Nat.le_of_ble_eq_true rfl) (hw _ _ (cw_ot (by omega) hz)) rfl) (ct_Waiters_at_0_3 (s := s) (u18_17 := u18_2) (by omega) hz c0_2 (by omega) c2_2) ⟨(Nat.le_of_ble_eq_true rfl), (Nat.le_of_ble_eq_true rfl), (Nat.le_of_ble_eq_true rfl), (Nat.le_of_ble_eq_true rfl)⟩ ?_
  show sh_cW _ _ (_, _, [.ref (A (10 + u18_2))]) K L _ _ _ _ _
  refine sh_cp (fun w Z k => sh_astore_n dc_Waiters_firstOfGreatestPriority_5 rfl (by decide) k) ?_
  refine sh_cp (fun w Z k => sh_iconst (v := 1) dc_Waiters_firstOfGreatestPriority_6 (by decide) k) ?_
  refine sh_cp (fun w Z k => sh_istore_n dc_Waiters_firstOfGreatestPriority_7 rfl (by decide) k) ?_
  refine sh_clv [2, 1, 0] rfl ?_
  exact k9
theorem cb_Waiters_firstOfGreatestPriority_n_8_1 {A : Nat → Nat} {K : sh_II} {L : sh_DD} {s : Nat} {i : Nat} (hs : s < 8) (hz : ¬ cw_cl (K 12 s) = 0) (hx : (K 19 s) ≤ (nI i)) : sh_cW A md_Waiters_firstOfGreatestPriority (8, [(0, .ref (A (30 + s))), (1, .null), (2, .int (nI i))], []) K L 0 0 (.inl (some (.null))) K L := by
  refine sh_cp (fun w Z k => sh_iload_n dc_Waiters_firstOfGreatestPriority_8 rfl rfl k) ?_
  refine sh_cp (fun w Z k => sh_aload_n dc_Waiters_firstOfGreatestPriority_9 rfl rfl k) ?_
  refine sh_cget (30 + s) 1 dc_Waiters_firstOfGreatestPriority_10 (cw_ot (by omega) hz) rfl (by decide) fl_Waiters_17 rfl rfl rfl rfl ?_
  refine sh_cp (fun w Z k => sh_icmp_ge (tgt := 50) dc_Waiters_firstOfGreatestPriority_13 (by decide) (fun _ => k) (fun z => absurd hx z)) ?_
  refine sh_cp (fun w Z k => sh_aload_nq (x := none) dc_Waiters_firstOfGreatestPriority_50 rfl rfl k) ?_
  show sh_cW _ _ (_, _, .null :: _) _ _ _ _ _ _ _
  exact sh_ce (fun w => sh_areturn (v := none) dc_Waiters_firstOfGreatestPriority_51 rfl (by decide) (by decide))
theorem cb_Waiters_firstOfGreatestPriority_e_8_1 {A : Nat → Nat} {K : sh_II} {L : sh_DD} {s : Nat} {i : Nat} {b : Nat} (hs : s < 8) (hz : ¬ cw_cl (K 12 s) = 0) (hb : b < 6) (hx : (K 19 s) ≤ (nI i)) : sh_cW A md_Waiters_firstOfGreatestPriority (8, [(0, .ref (A (30 + s))), (1, .ref (A (10 + b))), (2, .int (nI i))], []) K L 0 0 (.inl (some (.ref (A (10 + b))))) K L := by
  refine sh_cp (fun w Z k => sh_iload_n dc_Waiters_firstOfGreatestPriority_8 rfl rfl k) ?_
  refine sh_cp (fun w Z k => sh_aload_n dc_Waiters_firstOfGreatestPriority_9 rfl rfl k) ?_
  refine sh_cget (30 + s) 1 dc_Waiters_firstOfGreatestPriority_10 (cw_ot (by omega) hz) rfl (by decide) fl_Waiters_17 rfl rfl rfl rfl ?_
  refine sh_cp (fun w Z k => sh_icmp_ge (tgt := 50) dc_Waiters_firstOfGreatestPriority_13 (by decide) (fun _ => k) (fun z => absurd hx z)) ?_
  refine sh_cp (fun w Z k => sh_aload_n dc_Waiters_firstOfGreatestPriority_50 rfl rfl k) ?_
  exact sh_ce (fun w => sh_areturn (v := (some (A (10 + b)))) dc_Waiters_firstOfGreatestPriority_51 rfl (by decide) (by decide))
theorem cb_Waiters_firstOfGreatestPriority_8_1 {A : Nat → Nat} {K K9 : sh_II} {L L9 : sh_DD} {v9 : Option Value ⊕ Nat} {s : Nat} {i : Nat} {b : Nat} {u : Nat} (hs : s < 8) (hz : ¬ cw_cl (K 12 s) = 0) (hb : b < 6) (hi : i < 6) (hx : ¬ (K 19 s) ≤ (nI i)) (hu : u < 6) (er : K 18 (6 * s + i) = nI u) (c0_34 : (Op.cmpValue (FP.dcmp (L 3 u) (L 3 b)) .l) ≤ 0) (k9 : sh_cW A md_Waiters_firstOfGreatestPriority (8, [(0, .ref (A (30 + s))), (1, .ref (A (10 + b))), (2, .int (nI (i + 1)))], []) K L 0 0 v9 K9 L9) : sh_cW A md_Waiters_firstOfGreatestPriority (8, [(0, .ref (A (30 + s))), (1, .ref (A (10 + b))), (2, .int (nI i))], []) K L 0 0 v9 K9 L9 := by
  refine sh_cp (fun w Z k => sh_iload_n dc_Waiters_firstOfGreatestPriority_8 rfl rfl k) ?_
  refine sh_cp (fun w Z k => sh_aload_n dc_Waiters_firstOfGreatestPriority_9 rfl rfl k) ?_
  refine sh_cget (30 + s) 1 dc_Waiters_firstOfGreatestPriority_10 (cw_ot (by omega) hz) rfl (by decide) fl_Waiters_17 rfl rfl rfl rfl ?_
  refine sh_cp (fun w Z k => sh_icmp_ge (tgt := 50) dc_Waiters_firstOfGreatestPriority_13 (by decide) (fun z => absurd z hx) (fun _ => k)) ?_
  refine sh_cp (fun w Z k => sh_aload_n dc_Waiters_firstOfGreatestPriority_16 rfl rfl k) ?_
  refine sh_cp (fun w Z k => sh_ifnull dc_Waiters_firstOfGreatestPriority_17 k) ?_
  refine sh_cp (fun w Z k => sh_aload_n dc_Waiters_firstOfGreatestPriority_20 rfl rfl k) ?_
  refine sh_cget (30 + s) 0 dc_Waiters_firstOfGreatestPriority_21 (cw_ot (by omega) hz) rfl (by decide) fl_Waiters_11 rfl rfl rfl rfl ?_
  refine sh_cp (fun w Z k => sh_iload_n dc_Waiters_firstOfGreatestPriority_24 rfl rfl k) ?_
  refine sh_caald (40 + s) (k := i) dc_Waiters_firstOfGreatestPriority_25 (cw_or (by omega) hz) rfl rfl (by omega) (by decide) ?_
  refine sh_ctv (cw_rf_n er (by omega)) ?_
  refine sh_cget (10 + u) 1 dc_Waiters_firstOfGreatestPriority_26 (cw_ow (by omega)) rfl (by decide) fl_Waiters_28 rfl rfl rfl rfl ?_
  refine sh_cp (fun w Z k => sh_aload_n dc_Waiters_firstOfGreatestPriority_29 rfl rfl k) ?_
  refine sh_cget (10 + b) 1 dc_Waiters_firstOfGreatestPriority_30 (cw_ow (by omega)) rfl (by decide) fl_Waiters_28 rfl rfl rfl rfl ?_
  refine sh_cp (fun w Z k => sh_dcmp dc_Waiters_firstOfGreatestPriority_33 k) ?_
  refine sh_cp (fun w Z k => sh_if_le (tgt := 44) dc_Waiters_firstOfGreatestPriority_34 (by decide) (fun _ => k) (fun z => absurd c0_34 z)) ?_
  refine sh_cp (fun w Z k => sh_iinc (v := nI (i + 1)) dc_Waiters_firstOfGreatestPriority_44 rfl (sh_nadd rfl (rfl : (1 : Int32) = nI 1)) (by decide) k) ?_
  refine sh_cp (fun w Z k => sh_goto_ (tgt := 8) dc_Waiters_firstOfGreatestPriority_47 (by decide) k) ?_
  refine sh_clv [1, 2, 0] rfl ?_
  exact k9
theorem cb_Waiters_firstOfGreatestPriority_8_2 {A : Nat → Nat} {K K9 : sh_II} {L L9 : sh_DD} {v9 : Option Value ⊕ Nat} {s : Nat} {i : Nat} {b : Nat} {u : Nat} (hs : s < 8) (hz : ¬ cw_cl (K 12 s) = 0) (hb : b < 6) (hi : i < 6) (hx : ¬ (K 19 s) ≤ (nI i)) (hu : u < 6) (er : K 18 (6 * s + i) = nI u) (c0_34 : ¬ (Op.cmpValue (FP.dcmp (L 3 u) (L 3 b)) .l) ≤ 0) (k9 : sh_cW A md_Waiters_firstOfGreatestPriority (8, [(0, .ref (A (30 + s))), (1, .ref (A (10 + u))), (2, .int (nI (i + 1)))], []) K L 0 0 v9 K9 L9) : sh_cW A md_Waiters_firstOfGreatestPriority (8, [(0, .ref (A (30 + s))), (1, .ref (A (10 + b))), (2, .int (nI i))], []) K L 0 0 v9 K9 L9 := by
  refine sh_cp (fun w Z k => sh_iload_n dc_Waiters_firstOfGreatestPriority_8 rfl rfl k) ?_
  refine sh_cp (fun w Z k => sh_aload_n dc_Waiters_firstOfGreatestPriority_9 rfl rfl k) ?_
  refine sh_cget (30 + s) 1 dc_Waiters_firstOfGreatestPriority_10 (cw_ot (by omega) hz) rfl (by decide) fl_Waiters_17 rfl rfl rfl rfl ?_
  refine sh_cp (fun w Z k => sh_icmp_ge (tgt := 50) dc_Waiters_firstOfGreatestPriority_13 (by decide) (fun z => absurd z hx) (fun _ => k)) ?_
  refine sh_cp (fun w Z k => sh_aload_n dc_Waiters_firstOfGreatestPriority_16 rfl rfl k) ?_
  refine sh_cp (fun w Z k => sh_ifnull dc_Waiters_firstOfGreatestPriority_17 k) ?_
  refine sh_cp (fun w Z k => sh_aload_n dc_Waiters_firstOfGreatestPriority_20 rfl rfl k) ?_
  refine sh_cget (30 + s) 0 dc_Waiters_firstOfGreatestPriority_21 (cw_ot (by omega) hz) rfl (by decide) fl_Waiters_11 rfl rfl rfl rfl ?_
  refine sh_cp (fun w Z k => sh_iload_n dc_Waiters_firstOfGreatestPriority_24 rfl rfl k) ?_
  refine sh_caald (40 + s) (k := i) dc_Waiters_firstOfGreatestPriority_25 (cw_or (by omega) hz) rfl rfl (by omega) (by decide) ?_
  refine sh_ctv (cw_rf_n er (by omega)) ?_
  refine sh_cget (10 + u) 1 dc_Waiters_firstOfGreatestPriority_26 (cw_ow (by omega)) rfl (by decide) fl_Waiters_28 rfl rfl rfl rfl ?_
  refine sh_cp (fun w Z k => sh_aload_n dc_Waiters_firstOfGreatestPriority_29 rfl rfl k) ?_
  refine sh_cget (10 + b) 1 dc_Waiters_firstOfGreatestPriority_30 (cw_ow (by omega)) rfl (by decide) fl_Waiters_28 rfl rfl rfl rfl ?_
  refine sh_cp (fun w Z k => sh_dcmp dc_Waiters_firstOfGreatestPriority_33 k) ?_
  refine sh_cp (fun w Z k => sh_if_le (tgt := 44) dc_Waiters_firstOfGreatestPriority_34 (by decide) (fun z => absurd z c0_34) (fun _ => k)) ?_
  refine sh_cp (fun w Z k => sh_aload_n dc_Waiters_firstOfGreatestPriority_37 rfl rfl k) ?_
  refine sh_cget (30 + s) 0 dc_Waiters_firstOfGreatestPriority_38 (cw_ot (by omega) hz) rfl (by decide) fl_Waiters_11 rfl rfl rfl rfl ?_
  refine sh_cp (fun w Z k => sh_iload_n dc_Waiters_firstOfGreatestPriority_41 rfl rfl k) ?_
  refine sh_caald (40 + s) (k := i) dc_Waiters_firstOfGreatestPriority_42 (cw_or (by omega) hz) rfl rfl (by omega) (by decide) ?_
  refine sh_ctv (cw_rf_n er (by omega)) ?_
  refine sh_cp (fun w Z k => sh_astore_n dc_Waiters_firstOfGreatestPriority_43 rfl (by decide) k) ?_
  refine sh_cp (fun w Z k => sh_iinc (v := nI (i + 1)) dc_Waiters_firstOfGreatestPriority_44 rfl (sh_nadd rfl (rfl : (1 : Int32) = nI 1)) (by decide) k) ?_
  refine sh_cp (fun w Z k => sh_goto_ (tgt := 8) dc_Waiters_firstOfGreatestPriority_47 (by decide) k) ?_
  refine sh_clv [2, 1, 0] rfl ?_
  exact k9
theorem cb_Shared_othersRead_p_0_1 {A : Nat → Nat} {K K9 : sh_II} {L L9 : sh_DD} {v9 : Option Value ⊕ Nat} {s : Nat} {t : Nat} (hs : s < 8) (ht : t < 6) (hk_s : cw_cl (K 12 s) = 7) (k9 : sh_cW A md_Shared_othersRead (2, [(0, .ref (A (20 + s))), (1, .ref (A (10 + t))), (2, .int 0)], []) K L 0 0 v9 K9 L9) : sh_cW A md_Shared_othersRead (0, [(0, .ref (A (20 + s))), (1, .ref (A (10 + t)))], []) K L 0 0 v9 K9 L9 := by
  refine sh_cp (fun w Z k => sh_iconst (v := 0) dc_Shared_othersRead_0 (by decide) k) ?_
  refine sh_cp (fun w Z k => sh_istore_n dc_Shared_othersRead_1 rfl (by decide) k) ?_
  refine sh_clv [1, 2, 0] rfl ?_
  exact k9
theorem cb_Shared_othersRead_e_2_1 {A : Nat → Nat} {K : sh_II} {L : sh_DD} {s : Nat} {t : Nat} {i : Nat} (hs : s < 8) (ht : t < 6) (hx : 6 ≤ (nI i)) (hk_s : cw_cl (K 12 s) = 7) : sh_cW A md_Shared_othersRead (2, [(0, .ref (A (20 + s))), (1, .ref (A (10 + t))), (2, .int (nI i))], []) K L 0 0 (.inl (some (.int 0))) K L := by
  refine sh_cp (fun w Z k => sh_iload_n dc_Shared_othersRead_2 rfl rfl k) ?_
  refine sh_cp (fun w Z k => sh_bipush (v := 6) dc_Shared_othersRead_3 (by decide) k) ?_
  refine sh_cp (fun w Z k => sh_icmp_ge (tgt := 33) dc_Shared_othersRead_5 (by decide) (fun _ => k) (fun z => absurd hx z)) ?_
  refine sh_cp (fun w Z k => sh_iconst (v := 0) dc_Shared_othersRead_33 (by decide) k) ?_
  exact sh_ce (fun w => sh_ireturn dc_Shared_othersRead_34 rfl rfl (by decide) (by decide))
theorem cb_Shared_othersRead_2_1 {A : Nat → Nat} {K K9 : sh_II} {L L9 : sh_DD} {v9 : Option Value ⊕ Nat} {s : Nat} {t : Nat} {i : Nat} (hs : s < 8) (ht : t < 6) (hi : i < 6) (hx : ¬ 6 ≤ (nI i)) (hk_s : cw_cl (K 12 s) = 7) (c0_13 : (nI i) = (nI t)) (k9 : sh_cW A md_Shared_othersRead (2, [(0, .ref (A (20 + s))), (1, .ref (A (10 + t))), (2, .int (nI (i + 1)))], []) K L 0 0 v9 K9 L9) : sh_cW A md_Shared_othersRead (2, [(0, .ref (A (20 + s))), (1, .ref (A (10 + t))), (2, .int (nI i))], []) K L 0 0 v9 K9 L9 := by
  refine sh_cp (fun w Z k => sh_iload_n dc_Shared_othersRead_2 rfl rfl k) ?_
  refine sh_cp (fun w Z k => sh_bipush (v := 6) dc_Shared_othersRead_3 (by decide) k) ?_
  refine sh_cp (fun w Z k => sh_icmp_ge (tgt := 33) dc_Shared_othersRead_5 (by decide) (fun z => absurd z hx) (fun _ => k)) ?_
  refine sh_cp (fun w Z k => sh_iload_n dc_Shared_othersRead_8 rfl rfl k) ?_
  refine sh_cp (fun w Z k => sh_aload_n dc_Shared_othersRead_9 rfl rfl k) ?_
  refine sh_cget (10 + t) 0 dc_Shared_othersRead_10 (cw_ow (by omega)) rfl (by decide) fl_Shared_15 rfl rfl rfl rfl ?_
  refine sh_cp (fun w Z k => sh_icmp_eq (tgt := 27) dc_Shared_othersRead_13 (by decide) (fun _ => k) (fun z => absurd c0_13 z)) ?_
  refine sh_cp (fun w Z k => sh_iinc (v := nI (i + 1)) dc_Shared_othersRead_27 rfl (sh_nadd rfl (rfl : (1 : Int32) = nI 1)) (by decide) k) ?_
  refine sh_cp (fun w Z k => sh_goto_ (tgt := 2) dc_Shared_othersRead_30 (by decide) k) ?_
  refine sh_clv [1, 2, 0] rfl ?_
  exact k9
theorem cb_Shared_othersRead_2_2 {A : Nat → Nat} {K K9 : sh_II} {L L9 : sh_DD} {v9 : Option Value ⊕ Nat} {s : Nat} {t : Nat} {i : Nat} (hs : s < 8) (ht : t < 6) (hi : i < 6) (hx : ¬ 6 ≤ (nI i)) (hk_s : cw_cl (K 12 s) = 7) (c0_13 : ¬ (nI i) = (nI t)) (c1_22 : (K 17 (6 * s + i)) ≤ 0) (k9 : sh_cW A md_Shared_othersRead (2, [(0, .ref (A (20 + s))), (1, .ref (A (10 + t))), (2, .int (nI (i + 1)))], []) K L 0 0 v9 K9 L9) : sh_cW A md_Shared_othersRead (2, [(0, .ref (A (20 + s))), (1, .ref (A (10 + t))), (2, .int (nI i))], []) K L 0 0 v9 K9 L9 := by
  refine sh_cp (fun w Z k => sh_iload_n dc_Shared_othersRead_2 rfl rfl k) ?_
  refine sh_cp (fun w Z k => sh_bipush (v := 6) dc_Shared_othersRead_3 (by decide) k) ?_
  refine sh_cp (fun w Z k => sh_icmp_ge (tgt := 33) dc_Shared_othersRead_5 (by decide) (fun z => absurd z hx) (fun _ => k)) ?_
  refine sh_cp (fun w Z k => sh_iload_n dc_Shared_othersRead_8 rfl rfl k) ?_
  refine sh_cp (fun w Z k => sh_aload_n dc_Shared_othersRead_9 rfl rfl k) ?_
  refine sh_cget (10 + t) 0 dc_Shared_othersRead_10 (cw_ow (by omega)) rfl (by decide) fl_Shared_15 rfl rfl rfl rfl ?_
  refine sh_cp (fun w Z k => sh_icmp_eq (tgt := 27) dc_Shared_othersRead_13 (by decide) (fun z => absurd z c0_13) (fun _ => k)) ?_
  refine sh_cp (fun w Z k => sh_aload_n dc_Shared_othersRead_16 rfl rfl k) ?_
  refine sh_cget (20 + s) 4 dc_Shared_othersRead_17 (cw_oh (by omega) hk_s) rfl (by decide) fl_Shared_9 rfl rfl rfl rfl ?_
  refine sh_cp (fun w Z k => sh_iload_n dc_Shared_othersRead_20 rfl rfl k) ?_
  refine sh_ciald (50 + s) (k := i) dc_Shared_othersRead_21 (cw_od (by omega) hk_s) rfl (by omega) (by decide) ?_
  refine sh_cp (fun w Z k => sh_if_le (tgt := 27) dc_Shared_othersRead_22 (by decide) (fun _ => k) (fun z => absurd c1_22 z)) ?_
  refine sh_cp (fun w Z k => sh_iinc (v := nI (i + 1)) dc_Shared_othersRead_27 rfl (sh_nadd rfl (rfl : (1 : Int32) = nI 1)) (by decide) k) ?_
  refine sh_cp (fun w Z k => sh_goto_ (tgt := 2) dc_Shared_othersRead_30 (by decide) k) ?_
  refine sh_clv [1, 2, 0] rfl ?_
  exact k9
theorem cb_Shared_othersRead_2_3 {A : Nat → Nat} {K : sh_II} {L : sh_DD} {s : Nat} {t : Nat} {i : Nat} (hs : s < 8) (ht : t < 6) (hi : i < 6) (hx : ¬ 6 ≤ (nI i)) (hk_s : cw_cl (K 12 s) = 7) (c0_13 : ¬ (nI i) = (nI t)) (c1_22 : ¬ (K 17 (6 * s + i)) ≤ 0) : sh_cW A md_Shared_othersRead (2, [(0, .ref (A (20 + s))), (1, .ref (A (10 + t))), (2, .int (nI i))], []) K L 0 0 (.inl (some (.int 1))) K L := by
  refine sh_cp (fun w Z k => sh_iload_n dc_Shared_othersRead_2 rfl rfl k) ?_
  refine sh_cp (fun w Z k => sh_bipush (v := 6) dc_Shared_othersRead_3 (by decide) k) ?_
  refine sh_cp (fun w Z k => sh_icmp_ge (tgt := 33) dc_Shared_othersRead_5 (by decide) (fun z => absurd z hx) (fun _ => k)) ?_
  refine sh_cp (fun w Z k => sh_iload_n dc_Shared_othersRead_8 rfl rfl k) ?_
  refine sh_cp (fun w Z k => sh_aload_n dc_Shared_othersRead_9 rfl rfl k) ?_
  refine sh_cget (10 + t) 0 dc_Shared_othersRead_10 (cw_ow (by omega)) rfl (by decide) fl_Shared_15 rfl rfl rfl rfl ?_
  refine sh_cp (fun w Z k => sh_icmp_eq (tgt := 27) dc_Shared_othersRead_13 (by decide) (fun z => absurd z c0_13) (fun _ => k)) ?_
  refine sh_cp (fun w Z k => sh_aload_n dc_Shared_othersRead_16 rfl rfl k) ?_
  refine sh_cget (20 + s) 4 dc_Shared_othersRead_17 (cw_oh (by omega) hk_s) rfl (by decide) fl_Shared_9 rfl rfl rfl rfl ?_
  refine sh_cp (fun w Z k => sh_iload_n dc_Shared_othersRead_20 rfl rfl k) ?_
  refine sh_ciald (50 + s) (k := i) dc_Shared_othersRead_21 (cw_od (by omega) hk_s) rfl (by omega) (by decide) ?_
  refine sh_cp (fun w Z k => sh_if_le (tgt := 27) dc_Shared_othersRead_22 (by decide) (fun z => absurd z c1_22) (fun _ => k)) ?_
  refine sh_cp (fun w Z k => sh_iconst (v := 1) dc_Shared_othersRead_25 (by decide) k) ?_
  exact sh_ce (fun w => sh_ireturn dc_Shared_othersRead_26 rfl rfl (by decide) (by decide))
theorem cb_LockOrder_afterAny_p_0_1 {A : Nat → Nat} {K K9 : sh_II} {L L9 : sh_DD} {v9 : Option Value ⊕ Nat} {x : Int32} (k9 : sh_cW A md_LockOrder_afterAny (4, [(0, .ref (A 3)), (1, .int x), (2, .int 0), (3, .int 0)], []) K L 0 0 v9 K9 L9) : sh_cW A md_LockOrder_afterAny (0, [(0, .ref (A 3)), (1, .int x)], []) K L 0 0 v9 K9 L9 := by
  refine sh_cp (fun w Z k => sh_iconst (v := 0) dc_LockOrder_afterAny_0 (by decide) k) ?_
  refine sh_cp (fun w Z k => sh_istore_n dc_LockOrder_afterAny_1 rfl (by decide) k) ?_
  refine sh_cp (fun w Z k => sh_iconst (v := 0) dc_LockOrder_afterAny_2 (by decide) k) ?_
  refine sh_cp (fun w Z k => sh_istore_n dc_LockOrder_afterAny_3 rfl (by decide) k) ?_
  refine sh_clv [2, 3, 1, 0] rfl ?_
  exact k9
theorem cb_LockOrder_afterAny_e_4_1 {A : Nat → Nat} {K : sh_II} {L : sh_DD} {x : Int32} {y : Int32} {i : Nat} (hx : 8 ≤ (nI i)) : sh_cW A md_LockOrder_afterAny (4, [(0, .ref (A 3)), (1, .int x), (2, .int y), (3, .int (nI i))], []) K L 0 0 (.inl (some (.int y))) K L := by
  refine sh_cp (fun w Z k => sh_iload_n dc_LockOrder_afterAny_4 rfl rfl k) ?_
  refine sh_cp (fun w Z k => sh_bipush (v := 8) dc_LockOrder_afterAny_5 (by decide) k) ?_
  refine sh_cp (fun w Z k => sh_icmp_ge (tgt := 33) dc_LockOrder_afterAny_7 (by decide) (fun _ => k) (fun z => absurd hx z)) ?_
  refine sh_cp (fun w Z k => sh_iload_n dc_LockOrder_afterAny_33 rfl rfl k) ?_
  exact sh_ce (fun w => sh_ireturn dc_LockOrder_afterAny_34 rfl rfl (by decide) (by decide))
theorem cb_LockOrder_afterAny_4_1 {A : Nat → Nat} {K K9 : sh_II} {L L9 : sh_DD} {v9 : Option Value ⊕ Nat} {x : Int32} {y : Int32} {i : Nat} (hi : i < 8) (hx : ¬ 8 ≤ (nI i)) (c0_15 : ((x >>> ((nI i) &&& 31)) &&& 1) = 0) (k9 : sh_cW A md_LockOrder_afterAny (4, [(0, .ref (A 3)), (1, .int x), (2, .int y), (3, .int (nI (i + 1)))], []) K L 0 0 v9 K9 L9) : sh_cW A md_LockOrder_afterAny (4, [(0, .ref (A 3)), (1, .int x), (2, .int y), (3, .int (nI i))], []) K L 0 0 v9 K9 L9 := by
  refine sh_cp (fun w Z k => sh_iload_n dc_LockOrder_afterAny_4 rfl rfl k) ?_
  refine sh_cp (fun w Z k => sh_bipush (v := 8) dc_LockOrder_afterAny_5 (by decide) k) ?_
  refine sh_cp (fun w Z k => sh_icmp_ge (tgt := 33) dc_LockOrder_afterAny_7 (by decide) (fun z => absurd z hx) (fun _ => k)) ?_
  refine sh_cp (fun w Z k => sh_iload_n dc_LockOrder_afterAny_10 rfl rfl k) ?_
  refine sh_cp (fun w Z k => sh_iload_n dc_LockOrder_afterAny_11 rfl rfl k) ?_
  refine sh_cp (fun w Z k => sh_ishr dc_LockOrder_afterAny_12 k) ?_
  refine sh_cp (fun w Z k => sh_iconst (v := 1) dc_LockOrder_afterAny_13 (by decide) k) ?_
  refine sh_cp (fun w Z k => sh_iand dc_LockOrder_afterAny_14 k) ?_
  refine sh_cp (fun w Z k => sh_if_eq (tgt := 27) dc_LockOrder_afterAny_15 (by decide) (fun _ => k) (fun z => absurd c0_15 z)) ?_
  refine sh_cp (fun w Z k => sh_iinc (v := nI (i + 1)) dc_LockOrder_afterAny_27 rfl (sh_nadd rfl (rfl : (1 : Int32) = nI 1)) (by decide) k) ?_
  refine sh_cp (fun w Z k => sh_goto_ (tgt := 4) dc_LockOrder_afterAny_30 (by decide) k) ?_
  refine sh_clv [1, 2, 3, 0] rfl ?_
  exact k9
theorem cb_LockOrder_afterAny_4_2 {A : Nat → Nat} {K K9 : sh_II} {L L9 : sh_DD} {v9 : Option Value ⊕ Nat} {x : Int32} {y : Int32} {i : Nat} (hi : i < 8) (hx : ¬ 8 ≤ (nI i)) (c0_15 : ¬ ((x >>> ((nI i) &&& 31)) &&& 1) = 0) (k9 : sh_cW A md_LockOrder_afterAny (4, [(0, .ref (A 3)), (1, .int x), (2, .int (y ||| (K 28 i))), (3, .int (nI (i + 1)))], []) K L 0 0 v9 K9 L9) : sh_cW A md_LockOrder_afterAny (4, [(0, .ref (A 3)), (1, .int x), (2, .int y), (3, .int (nI i))], []) K L 0 0 v9 K9 L9 := by
  refine sh_cp (fun w Z k => sh_iload_n dc_LockOrder_afterAny_4 rfl rfl k) ?_
  refine sh_cp (fun w Z k => sh_bipush (v := 8) dc_LockOrder_afterAny_5 (by decide) k) ?_
  refine sh_cp (fun w Z k => sh_icmp_ge (tgt := 33) dc_LockOrder_afterAny_7 (by decide) (fun z => absurd z hx) (fun _ => k)) ?_
  refine sh_cp (fun w Z k => sh_iload_n dc_LockOrder_afterAny_10 rfl rfl k) ?_
  refine sh_cp (fun w Z k => sh_iload_n dc_LockOrder_afterAny_11 rfl rfl k) ?_
  refine sh_cp (fun w Z k => sh_ishr dc_LockOrder_afterAny_12 k) ?_
  refine sh_cp (fun w Z k => sh_iconst (v := 1) dc_LockOrder_afterAny_13 (by decide) k) ?_
  refine sh_cp (fun w Z k => sh_iand dc_LockOrder_afterAny_14 k) ?_
  refine sh_cp (fun w Z k => sh_if_eq (tgt := 27) dc_LockOrder_afterAny_15 (by decide) (fun z => absurd z c0_15) (fun _ => k)) ?_
  refine sh_cp (fun w Z k => sh_iload_n dc_LockOrder_afterAny_18 rfl rfl k) ?_
  refine sh_cp (fun w Z k => sh_aload_n dc_LockOrder_afterAny_19 rfl rfl k) ?_
  refine sh_cget 3 0 dc_LockOrder_afterAny_20 cw_o3 rfl (by decide) fl_LockOrder_9 rfl rfl rfl rfl ?_
  refine sh_cp (fun w Z k => sh_iload_n dc_LockOrder_afterAny_23 rfl rfl k) ?_
  refine sh_ciald 4 (k := i) dc_LockOrder_afterAny_24 cw_o4 rfl (by omega) (by decide) ?_
  refine sh_cp (fun w Z k => sh_ior dc_LockOrder_afterAny_25 k) ?_
  refine sh_cp (fun w Z k => sh_istore_n dc_LockOrder_afterAny_26 rfl (by decide) k) ?_
  refine sh_cp (fun w Z k => sh_iinc (v := nI (i + 1)) dc_LockOrder_afterAny_27 rfl (sh_nadd rfl (rfl : (1 : Int32) = nI 1)) (by decide) k) ?_
  refine sh_cp (fun w Z k => sh_goto_ (tgt := 4) dc_LockOrder_afterAny_30 (by decide) k) ?_
  refine sh_clv [2, 3, 1, 0] rfl ?_
  exact k9
theorem cb_LockOrder_putBefore_p_0_1 {A : Nat → Nat} {K K9 : sh_II} {L L9 : sh_DD} {v9 : Option Value ⊕ Nat} {x : Int32} {j : Nat} (k9 : sh_cW A md_LockOrder_putBefore (2, [(0, .ref (A 3)), (1, .int x), (2, .int (nI j)), (3, .int 0)], []) K L 0 0 v9 K9 L9) : sh_cW A md_LockOrder_putBefore (0, [(0, .ref (A 3)), (1, .int x), (2, .int (nI j))], []) K L 0 0 v9 K9 L9 := by
  refine sh_cp (fun w Z k => sh_iconst (v := 0) dc_LockOrder_putBefore_0 (by decide) k) ?_
  refine sh_cp (fun w Z k => sh_istore_n dc_LockOrder_putBefore_1 rfl (by decide) k) ?_
  refine sh_clv [1, 2, 3, 0] rfl ?_
  exact k9
theorem cb_LockOrder_putBefore_e_2_1 {A : Nat → Nat} {K : sh_II} {L : sh_DD} {x : Int32} {j : Nat} {i : Nat} (hx : 8 ≤ (nI i)) : sh_cW A md_LockOrder_putBefore (2, [(0, .ref (A 3)), (1, .int x), (2, .int (nI j)), (3, .int (nI i))], []) K L 0 0 (.inl none) K L := by
  refine sh_cp (fun w Z k => sh_iload_n dc_LockOrder_putBefore_2 rfl rfl k) ?_
  refine sh_cp (fun w Z k => sh_bipush (v := 8) dc_LockOrder_putBefore_3 (by decide) k) ?_
  refine sh_cp (fun w Z k => sh_icmp_ge (tgt := 34) dc_LockOrder_putBefore_5 (by decide) (fun _ => k) (fun z => absurd hx z)) ?_
  exact sh_ce (fun w => sh_return dc_LockOrder_putBefore_34 rfl (by decide) (by decide))
theorem cb_LockOrder_putBefore_2_1 {A : Nat → Nat} {K K9 : sh_II} {L L9 : sh_DD} {v9 : Option Value ⊕ Nat} {x : Int32} {j : Nat} {i : Nat} (hi : i < 8) (hx : ¬ 8 ≤ (nI i)) (c0_13 : ((x >>> ((nI i) &&& 31)) &&& 1) = 0) (k9 : sh_cW A md_LockOrder_putBefore (2, [(0, .ref (A 3)), (1, .int x), (2, .int (nI j)), (3, .int (nI (i + 1)))], []) K L 0 0 v9 K9 L9) : sh_cW A md_LockOrder_putBefore (2, [(0, .ref (A 3)), (1, .int x), (2, .int (nI j)), (3, .int (nI i))], []) K L 0 0 v9 K9 L9 := by
  refine sh_cp (fun w Z k => sh_iload_n dc_LockOrder_putBefore_2 rfl rfl k) ?_
  refine sh_cp (fun w Z k => sh_bipush (v := 8) dc_LockOrder_putBefore_3 (by decide) k) ?_
  refine sh_cp (fun w Z k => sh_icmp_ge (tgt := 34) dc_LockOrder_putBefore_5 (by decide) (fun z => absurd z hx) (fun _ => k)) ?_
  refine sh_cp (fun w Z k => sh_iload_n dc_LockOrder_putBefore_8 rfl rfl k) ?_
  refine sh_cp (fun w Z k => sh_iload_n dc_LockOrder_putBefore_9 rfl rfl k) ?_
  refine sh_cp (fun w Z k => sh_ishr dc_LockOrder_putBefore_10 k) ?_
  refine sh_cp (fun w Z k => sh_iconst (v := 1) dc_LockOrder_putBefore_11 (by decide) k) ?_
  refine sh_cp (fun w Z k => sh_iand dc_LockOrder_putBefore_12 k) ?_
  refine sh_cp (fun w Z k => sh_if_eq (tgt := 28) dc_LockOrder_putBefore_13 (by decide) (fun _ => k) (fun z => absurd c0_13 z)) ?_
  refine sh_cp (fun w Z k => sh_iinc (v := nI (i + 1)) dc_LockOrder_putBefore_28 rfl (sh_nadd rfl (rfl : (1 : Int32) = nI 1)) (by decide) k) ?_
  refine sh_cp (fun w Z k => sh_goto_ (tgt := 2) dc_LockOrder_putBefore_31 (by decide) k) ?_
  refine sh_clv [1, 2, 3, 0] rfl ?_
  exact k9
theorem cb_LockOrder_putBefore_2_2 {A : Nat → Nat} {K K9 : sh_II} {L L9 : sh_DD} {v9 : Option Value ⊕ Nat} {x : Int32} {j : Nat} {i : Nat} (hi : i < 8) (hx : ¬ 8 ≤ (nI i)) (c0_13 : ¬ ((x >>> ((nI i) &&& 31)) &&& 1) = 0) (k9 : sh_cW A md_LockOrder_putBefore (2, [(0, .ref (A 3)), (1, .int x), (2, .int (nI j)), (3, .int (nI (i + 1)))], []) (sh_u2 K 28 i ((K 28 i) ||| (1 <<< ((nI j) &&& 31)))) L 0 0 v9 K9 L9) : sh_cW A md_LockOrder_putBefore (2, [(0, .ref (A 3)), (1, .int x), (2, .int (nI j)), (3, .int (nI i))], []) K L 0 0 v9 K9 L9 := by
  refine sh_cp (fun w Z k => sh_iload_n dc_LockOrder_putBefore_2 rfl rfl k) ?_
  refine sh_cp (fun w Z k => sh_bipush (v := 8) dc_LockOrder_putBefore_3 (by decide) k) ?_
  refine sh_cp (fun w Z k => sh_icmp_ge (tgt := 34) dc_LockOrder_putBefore_5 (by decide) (fun z => absurd z hx) (fun _ => k)) ?_
  refine sh_cp (fun w Z k => sh_iload_n dc_LockOrder_putBefore_8 rfl rfl k) ?_
  refine sh_cp (fun w Z k => sh_iload_n dc_LockOrder_putBefore_9 rfl rfl k) ?_
  refine sh_cp (fun w Z k => sh_ishr dc_LockOrder_putBefore_10 k) ?_
  refine sh_cp (fun w Z k => sh_iconst (v := 1) dc_LockOrder_putBefore_11 (by decide) k) ?_
  refine sh_cp (fun w Z k => sh_iand dc_LockOrder_putBefore_12 k) ?_
  refine sh_cp (fun w Z k => sh_if_eq (tgt := 28) dc_LockOrder_putBefore_13 (by decide) (fun z => absurd z c0_13) (fun _ => k)) ?_
  refine sh_cp (fun w Z k => sh_aload_n dc_LockOrder_putBefore_16 rfl rfl k) ?_
  refine sh_cget 3 0 dc_LockOrder_putBefore_17 cw_o3 rfl (by decide) fl_LockOrder_9 rfl rfl rfl rfl ?_
  refine sh_cp (fun w Z k => sh_iload_n dc_LockOrder_putBefore_20 rfl rfl k) ?_
  refine sh_cp (fun w Z k => sh_dup2 dc_LockOrder_putBefore_21 rfl rfl k) ?_
  refine sh_ciald 4 (k := i) dc_LockOrder_putBefore_22 cw_o4 rfl (by omega) (by decide) ?_
  refine sh_cp (fun w Z k => sh_iconst (v := 1) dc_LockOrder_putBefore_23 (by decide) k) ?_
  refine sh_cp (fun w Z k => sh_iload_n dc_LockOrder_putBefore_24 rfl rfl k) ?_
  refine sh_cp (fun w Z k => sh_ishl dc_LockOrder_putBefore_25 k) ?_
  refine sh_cp (fun w Z k => sh_ior dc_LockOrder_putBefore_26 k) ?_
  refine sh_ciast (K1 := (sh_u2 K 28 i ((K 28 i) ||| (1 <<< ((nI j) &&& 31))))) (L1 := L) 4 (k := i) dc_LockOrder_putBefore_27 cw_o4 rfl (by omega) (by decide) (cq_aft_28 ) (fun i hi => cw_upI (by decide) hi) ?_
  refine sh_cp (fun w Z k => sh_iinc (v := nI (i + 1)) dc_LockOrder_putBefore_28 rfl (sh_nadd rfl (rfl : (1 : Int32) = nI 1)) (by decide) k) ?_
  refine sh_cp (fun w Z k => sh_goto_ (tgt := 2) dc_LockOrder_putBefore_31 (by decide) k) ?_
  refine sh_clv [1, 2, 3, 0] rfl ?_
  exact k9
theorem cb_Hall_locksOwnedBy_p_0_1 {A : Nat → Nat} {K K9 : sh_II} {L L9 : sh_DD} {v9 : Option Value ⊕ Nat} {t : Nat} (ht : t < 6) (k9 : sh_cW A md_Hall_locksOwnedBy (4, [(0, .ref (A 0)), (1, .ref (A (10 + t))), (2, .int 0), (3, .int 0)], []) K L 0 0 v9 K9 L9) : sh_cW A md_Hall_locksOwnedBy (0, [(0, .ref (A 0)), (1, .ref (A (10 + t)))], []) K L 0 0 v9 K9 L9 := by
  refine sh_cp (fun w Z k => sh_iconst (v := 0) dc_Hall_locksOwnedBy_0 (by decide) k) ?_
  refine sh_cp (fun w Z k => sh_istore_n dc_Hall_locksOwnedBy_1 rfl (by decide) k) ?_
  refine sh_cp (fun w Z k => sh_iconst (v := 0) dc_Hall_locksOwnedBy_2 (by decide) k) ?_
  refine sh_cp (fun w Z k => sh_istore_n dc_Hall_locksOwnedBy_3 rfl (by decide) k) ?_
  refine sh_clv [2, 3, 1, 0] rfl ?_
  exact k9
theorem cb_Hall_locksOwnedBy_e_4_1 {A : Nat → Nat} {K : sh_II} {L : sh_DD} {t : Nat} {y : Int32} {i : Nat} (ht : t < 6) (hx : 8 ≤ (nI i)) : sh_cW A md_Hall_locksOwnedBy (4, [(0, .ref (A 0)), (1, .ref (A (10 + t))), (2, .int y), (3, .int (nI i))], []) K L 0 0 (.inl (some (.int y))) K L := by
  refine sh_cp (fun w Z k => sh_iload_n dc_Hall_locksOwnedBy_4 rfl rfl k) ?_
  refine sh_cp (fun w Z k => sh_bipush (v := 8) dc_Hall_locksOwnedBy_5 (by decide) k) ?_
  refine sh_cp (fun w Z k => sh_icmp_ge (tgt := 54) dc_Hall_locksOwnedBy_7 (by decide) (fun _ => k) (fun z => absurd hx z)) ?_
  refine sh_cp (fun w Z k => sh_iload_n dc_Hall_locksOwnedBy_54 rfl rfl k) ?_
  exact sh_ce (fun w => sh_ireturn dc_Hall_locksOwnedBy_55 rfl rfl (by decide) (by decide))
theorem cb_Hall_locksOwnedBy_4_1 {A : Nat → Nat} {K K9 : sh_II} {L L9 : sh_DD} {v9 : Option Value ⊕ Nat} {t : Nat} {y : Int32} {i : Nat} (ht : t < 6) (hi : i < 8) (hx : ¬ 8 ≤ (nI i)) (c0_15 : cw_cl (K 12 i) = 0) (k9 : sh_cW A md_Hall_locksOwnedBy (4, [(0, .ref (A 0)), (1, .ref (A (10 + t))), (2, .int y), (3, .int (nI (i + 1)))], []) K L 0 0 v9 K9 L9) : sh_cW A md_Hall_locksOwnedBy (4, [(0, .ref (A 0)), (1, .ref (A (10 + t))), (2, .int y), (3, .int (nI i))], []) K L 0 0 v9 K9 L9 := by
  refine sh_cp (fun w Z k => sh_iload_n dc_Hall_locksOwnedBy_4 rfl rfl k) ?_
  refine sh_cp (fun w Z k => sh_bipush (v := 8) dc_Hall_locksOwnedBy_5 (by decide) k) ?_
  refine sh_cp (fun w Z k => sh_icmp_ge (tgt := 54) dc_Hall_locksOwnedBy_7 (by decide) (fun z => absurd z hx) (fun _ => k)) ?_
  refine sh_cp (fun w Z k => sh_aload_n dc_Hall_locksOwnedBy_10 rfl rfl k) ?_
  refine sh_cget 0 1 dc_Hall_locksOwnedBy_11 cw_o0 rfl (by decide) fl_Hall_20 rfl rfl rfl rfl ?_
  refine sh_cp (fun w Z k => sh_iload_n dc_Hall_locksOwnedBy_14 rfl rfl k) ?_
  refine sh_caald 2 (k := i) dc_Hall_locksOwnedBy_15 cw_o2 rfl rfl (by omega) (by decide) ?_
  refine sh_ctv (if_pos c0_15) ?_
  refine sh_cp (fun w Z k => sh_astoreN dc_Hall_locksOwnedBy_16 (by decide) k) ?_
  refine sh_cp (fun w Z k => sh_aloadq (x := none) dc_Hall_locksOwnedBy_18 rfl k) ?_
  show sh_cW _ _ (_, _, .null :: _) _ _ _ _ _ _ _
  refine sh_cp (fun w Z k => sh_instN dc_Hall_locksOwnedBy_20 k) ?_
  refine sh_cp (fun w Z k => sh_if_eq (tgt := 48) dc_Hall_locksOwnedBy_23 (by decide) (fun _ => k) (fun z => absurd (by decide) z)) ?_
  refine sh_cp (fun w Z k => sh_iinc (v := nI (i + 1)) dc_Hall_locksOwnedBy_48 rfl (sh_nadd rfl (rfl : (1 : Int32) = nI 1)) (by decide) k) ?_
  refine sh_cp (fun w Z k => sh_goto_ (tgt := 4) dc_Hall_locksOwnedBy_51 (by decide) k) ?_
  refine sh_clv [2, 3, 4, 0] rfl ?_
  exact k9
theorem cb_Hall_locksOwnedBy_4_2 {A : Nat → Nat} {K K9 : sh_II} {L L9 : sh_DD} {v9 : Option Value ⊕ Nat} {t : Nat} {y : Int32} {i : Nat} (ht : t < 6) (hi : i < 8) (hx : ¬ 8 ≤ (nI i)) (c0_15 : ¬ cw_cl (K 12 i) = 0) (hk_i : cw_cl (K 12 i) = 4) (c2_35 : (K 13 i) = -1) (k9 : sh_cW A md_Hall_locksOwnedBy (4, [(0, .ref (A 0)), (1, .ref (A (10 + t))), (2, .int y), (3, .int (nI (i + 1)))], []) K L 0 0 v9 K9 L9) : sh_cW A md_Hall_locksOwnedBy (4, [(0, .ref (A 0)), (1, .ref (A (10 + t))), (2, .int y), (3, .int (nI i))], []) K L 0 0 v9 K9 L9 := by
  refine sh_cp (fun w Z k => sh_iload_n dc_Hall_locksOwnedBy_4 rfl rfl k) ?_
  refine sh_cp (fun w Z k => sh_bipush (v := 8) dc_Hall_locksOwnedBy_5 (by decide) k) ?_
  refine sh_cp (fun w Z k => sh_icmp_ge (tgt := 54) dc_Hall_locksOwnedBy_7 (by decide) (fun z => absurd z hx) (fun _ => k)) ?_
  refine sh_cp (fun w Z k => sh_aload_n dc_Hall_locksOwnedBy_10 rfl rfl k) ?_
  refine sh_cget 0 1 dc_Hall_locksOwnedBy_11 cw_o0 rfl (by decide) fl_Hall_20 rfl rfl rfl rfl ?_
  refine sh_cp (fun w Z k => sh_iload_n dc_Hall_locksOwnedBy_14 rfl rfl k) ?_
  refine sh_caald 2 (k := i) dc_Hall_locksOwnedBy_15 cw_o2 rfl rfl (by omega) (by decide) ?_
  refine sh_ctv (if_neg c0_15) ?_
  refine sh_cp (fun w Z k => sh_astore dc_Hall_locksOwnedBy_16 (by decide) k) ?_
  refine sh_cp (fun w Z k => sh_aload dc_Hall_locksOwnedBy_18 rfl k) ?_
  refine sh_cinstY (20 + i) dc_Hall_locksOwnedBy_20 wd_290 (cw_ol (by omega) hk_i) rfl (Or.inl rfl) ?_
  refine sh_cp (fun w Z k => sh_if_eq (tgt := 48) dc_Hall_locksOwnedBy_23 (by decide) (fun z => absurd z (by decide)) (fun _ => k)) ?_
  refine sh_cp (fun w Z k => sh_aload dc_Hall_locksOwnedBy_26 rfl k) ?_
  refine sh_ccastY (20 + i) dc_Hall_locksOwnedBy_28 wd_290 (cw_ol (by omega) hk_i) rfl (Or.inl rfl) ?_
  refine sh_cp (fun w Z k => sh_astore dc_Hall_locksOwnedBy_31 (by decide) k) ?_
  refine sh_cp (fun w Z k => sh_aload dc_Hall_locksOwnedBy_33 rfl k) ?_
  refine sh_cget (20 + i) 4 dc_Hall_locksOwnedBy_35 (cw_ol (by omega) hk_i) rfl (by decide) fl_Hall_254 rfl rfl rfl rfl ?_
  refine sh_ctv (cw_rf_0 c2_35) ?_
  refine sh_cp (fun w Z k => sh_aload_n dc_Hall_locksOwnedBy_38 rfl rfl k) ?_
  refine sh_cp (fun w Z k => sh_acmp_ne (rx := none) (ry := (some (A (10 + t)))) (tgt := 48) dc_Hall_locksOwnedBy_39 (by decide) (fun _ => k) (fun z => absurd z (fun z => by cases z))) ?_
  refine sh_cp (fun w Z k => sh_iinc (v := nI (i + 1)) dc_Hall_locksOwnedBy_48 rfl (sh_nadd rfl (rfl : (1 : Int32) = nI 1)) (by decide) k) ?_
  refine sh_cp (fun w Z k => sh_goto_ (tgt := 4) dc_Hall_locksOwnedBy_51 (by decide) k) ?_
  refine sh_clv [3, 4, 5, 0] rfl ?_
  exact k9
theorem cb_Hall_locksOwnedBy_4_3 {A : Nat → Nat} {K K9 : sh_II} {L L9 : sh_DD} {v9 : Option Value ⊕ Nat} {t : Nat} {y : Int32} {i : Nat} {u13_35 : Nat} (ht : t < 6) (hi : i < 8) (hx : ¬ 8 ≤ (nI i)) (c0_15 : ¬ cw_cl (K 12 i) = 0) (hk_i : cw_cl (K 12 i) = 4) (hu13_35 : u13_35 < 6) (c3_35 : (K 13 i) = nI u13_35) (c4_39 : u13_35 = t) (k9 : sh_cW A md_Hall_locksOwnedBy (4, [(0, .ref (A 0)), (1, .ref (A (10 + t))), (2, .int (y ||| (1 <<< ((nI i) &&& 31)))), (3, .int (nI (i + 1)))], []) K L 0 0 v9 K9 L9) : sh_cW A md_Hall_locksOwnedBy (4, [(0, .ref (A 0)), (1, .ref (A (10 + t))), (2, .int y), (3, .int (nI i))], []) K L 0 0 v9 K9 L9 := by
  refine sh_cp (fun w Z k => sh_iload_n dc_Hall_locksOwnedBy_4 rfl rfl k) ?_
  refine sh_cp (fun w Z k => sh_bipush (v := 8) dc_Hall_locksOwnedBy_5 (by decide) k) ?_
  refine sh_cp (fun w Z k => sh_icmp_ge (tgt := 54) dc_Hall_locksOwnedBy_7 (by decide) (fun z => absurd z hx) (fun _ => k)) ?_
  refine sh_cp (fun w Z k => sh_aload_n dc_Hall_locksOwnedBy_10 rfl rfl k) ?_
  refine sh_cget 0 1 dc_Hall_locksOwnedBy_11 cw_o0 rfl (by decide) fl_Hall_20 rfl rfl rfl rfl ?_
  refine sh_cp (fun w Z k => sh_iload_n dc_Hall_locksOwnedBy_14 rfl rfl k) ?_
  refine sh_caald 2 (k := i) dc_Hall_locksOwnedBy_15 cw_o2 rfl rfl (by omega) (by decide) ?_
  refine sh_ctv (if_neg c0_15) ?_
  refine sh_cp (fun w Z k => sh_astore dc_Hall_locksOwnedBy_16 (by decide) k) ?_
  refine sh_cp (fun w Z k => sh_aload dc_Hall_locksOwnedBy_18 rfl k) ?_
  refine sh_cinstY (20 + i) dc_Hall_locksOwnedBy_20 wd_290 (cw_ol (by omega) hk_i) rfl (Or.inl rfl) ?_
  refine sh_cp (fun w Z k => sh_if_eq (tgt := 48) dc_Hall_locksOwnedBy_23 (by decide) (fun z => absurd z (by decide)) (fun _ => k)) ?_
  refine sh_cp (fun w Z k => sh_aload dc_Hall_locksOwnedBy_26 rfl k) ?_
  refine sh_ccastY (20 + i) dc_Hall_locksOwnedBy_28 wd_290 (cw_ol (by omega) hk_i) rfl (Or.inl rfl) ?_
  refine sh_cp (fun w Z k => sh_astore dc_Hall_locksOwnedBy_31 (by decide) k) ?_
  refine sh_cp (fun w Z k => sh_aload dc_Hall_locksOwnedBy_33 rfl k) ?_
  refine sh_cget (20 + i) 4 dc_Hall_locksOwnedBy_35 (cw_ol (by omega) hk_i) rfl (by decide) fl_Hall_254 rfl rfl rfl rfl ?_
  refine sh_ctv (cw_rf_n c3_35 (by omega)) ?_
  refine sh_cp (fun w Z k => sh_aload_n dc_Hall_locksOwnedBy_38 rfl rfl k) ?_
  refine sh_cacmp_ne (tgt := 48) dc_Hall_locksOwnedBy_39 (by decide) (by rw [cw_ow (by omega)]; rfl) (by rw [cw_ow (by omega)]; rfl) (fun z => absurd (by omega) z) (fun _ => ?_)
  refine sh_cp (fun w Z k => sh_iload_n dc_Hall_locksOwnedBy_42 rfl rfl k) ?_
  refine sh_cp (fun w Z k => sh_iconst (v := 1) dc_Hall_locksOwnedBy_43 (by decide) k) ?_
  refine sh_cp (fun w Z k => sh_iload_n dc_Hall_locksOwnedBy_44 rfl rfl k) ?_
  refine sh_cp (fun w Z k => sh_ishl dc_Hall_locksOwnedBy_45 k) ?_
  refine sh_cp (fun w Z k => sh_ior dc_Hall_locksOwnedBy_46 k) ?_
  refine sh_cp (fun w Z k => sh_istore_n dc_Hall_locksOwnedBy_47 rfl (by decide) k) ?_
  refine sh_cp (fun w Z k => sh_iinc (v := nI (i + 1)) dc_Hall_locksOwnedBy_48 rfl (sh_nadd rfl (rfl : (1 : Int32) = nI 1)) (by decide) k) ?_
  refine sh_cp (fun w Z k => sh_goto_ (tgt := 4) dc_Hall_locksOwnedBy_51 (by decide) k) ?_
  refine sh_clv [4, 5, 1, 0] rfl ?_
  exact k9
theorem cb_Hall_locksOwnedBy_4_4 {A : Nat → Nat} {K K9 : sh_II} {L L9 : sh_DD} {v9 : Option Value ⊕ Nat} {t : Nat} {y : Int32} {i : Nat} {u13_35 : Nat} (ht : t < 6) (hi : i < 8) (hx : ¬ 8 ≤ (nI i)) (c0_15 : ¬ cw_cl (K 12 i) = 0) (hk_i : cw_cl (K 12 i) = 4) (hu13_35 : u13_35 < 6) (c3_35 : (K 13 i) = nI u13_35) (c4_39 : ¬ u13_35 = t) (k9 : sh_cW A md_Hall_locksOwnedBy (4, [(0, .ref (A 0)), (1, .ref (A (10 + t))), (2, .int y), (3, .int (nI (i + 1)))], []) K L 0 0 v9 K9 L9) : sh_cW A md_Hall_locksOwnedBy (4, [(0, .ref (A 0)), (1, .ref (A (10 + t))), (2, .int y), (3, .int (nI i))], []) K L 0 0 v9 K9 L9 := by
  refine sh_cp (fun w Z k => sh_iload_n dc_Hall_locksOwnedBy_4 rfl rfl k) ?_
  refine sh_cp (fun w Z k => sh_bipush (v := 8) dc_Hall_locksOwnedBy_5 (by decide) k) ?_
  refine sh_cp (fun w Z k => sh_icmp_ge (tgt := 54) dc_Hall_locksOwnedBy_7 (by decide) (fun z => absurd z hx) (fun _ => k)) ?_
  refine sh_cp (fun w Z k => sh_aload_n dc_Hall_locksOwnedBy_10 rfl rfl k) ?_
  refine sh_cget 0 1 dc_Hall_locksOwnedBy_11 cw_o0 rfl (by decide) fl_Hall_20 rfl rfl rfl rfl ?_
  refine sh_cp (fun w Z k => sh_iload_n dc_Hall_locksOwnedBy_14 rfl rfl k) ?_
  refine sh_caald 2 (k := i) dc_Hall_locksOwnedBy_15 cw_o2 rfl rfl (by omega) (by decide) ?_
  refine sh_ctv (if_neg c0_15) ?_
  refine sh_cp (fun w Z k => sh_astore dc_Hall_locksOwnedBy_16 (by decide) k) ?_
  refine sh_cp (fun w Z k => sh_aload dc_Hall_locksOwnedBy_18 rfl k) ?_
  refine sh_cinstY (20 + i) dc_Hall_locksOwnedBy_20 wd_290 (cw_ol (by omega) hk_i) rfl (Or.inl rfl) ?_
  refine sh_cp (fun w Z k => sh_if_eq (tgt := 48) dc_Hall_locksOwnedBy_23 (by decide) (fun z => absurd z (by decide)) (fun _ => k)) ?_
  refine sh_cp (fun w Z k => sh_aload dc_Hall_locksOwnedBy_26 rfl k) ?_
  refine sh_ccastY (20 + i) dc_Hall_locksOwnedBy_28 wd_290 (cw_ol (by omega) hk_i) rfl (Or.inl rfl) ?_
  refine sh_cp (fun w Z k => sh_astore dc_Hall_locksOwnedBy_31 (by decide) k) ?_
  refine sh_cp (fun w Z k => sh_aload dc_Hall_locksOwnedBy_33 rfl k) ?_
  refine sh_cget (20 + i) 4 dc_Hall_locksOwnedBy_35 (cw_ol (by omega) hk_i) rfl (by decide) fl_Hall_254 rfl rfl rfl rfl ?_
  refine sh_ctv (cw_rf_n c3_35 (by omega)) ?_
  refine sh_cp (fun w Z k => sh_aload_n dc_Hall_locksOwnedBy_38 rfl rfl k) ?_
  refine sh_cacmp_ne (tgt := 48) dc_Hall_locksOwnedBy_39 (by decide) (by rw [cw_ow (by omega)]; rfl) (by rw [cw_ow (by omega)]; rfl) (fun _ => ?_) (fun z => absurd z (by omega))
  refine sh_cp (fun w Z k => sh_iinc (v := nI (i + 1)) dc_Hall_locksOwnedBy_48 rfl (sh_nadd rfl (rfl : (1 : Int32) = nI 1)) (by decide) k) ?_
  refine sh_cp (fun w Z k => sh_goto_ (tgt := 4) dc_Hall_locksOwnedBy_51 (by decide) k) ?_
  refine sh_clv [3, 4, 5, 0] rfl ?_
  exact k9
theorem cb_Hall_locksOwnedBy_4_5 {A : Nat → Nat} {K K9 : sh_II} {L L9 : sh_DD} {v9 : Option Value ⊕ Nat} {t : Nat} {y : Int32} {i : Nat} (ht : t < 6) (hi : i < 8) (hx : ¬ 8 ≤ (nI i)) (c0_15 : ¬ cw_cl (K 12 i) = 0) (hk_i : cw_cl (K 12 i) = 5) (k9 : sh_cW A md_Hall_locksOwnedBy (4, [(0, .ref (A 0)), (1, .ref (A (10 + t))), (2, .int y), (3, .int (nI (i + 1)))], []) K L 0 0 v9 K9 L9) : sh_cW A md_Hall_locksOwnedBy (4, [(0, .ref (A 0)), (1, .ref (A (10 + t))), (2, .int y), (3, .int (nI i))], []) K L 0 0 v9 K9 L9 := by
  refine sh_cp (fun w Z k => sh_iload_n dc_Hall_locksOwnedBy_4 rfl rfl k) ?_
  refine sh_cp (fun w Z k => sh_bipush (v := 8) dc_Hall_locksOwnedBy_5 (by decide) k) ?_
  refine sh_cp (fun w Z k => sh_icmp_ge (tgt := 54) dc_Hall_locksOwnedBy_7 (by decide) (fun z => absurd z hx) (fun _ => k)) ?_
  refine sh_cp (fun w Z k => sh_aload_n dc_Hall_locksOwnedBy_10 rfl rfl k) ?_
  refine sh_cget 0 1 dc_Hall_locksOwnedBy_11 cw_o0 rfl (by decide) fl_Hall_20 rfl rfl rfl rfl ?_
  refine sh_cp (fun w Z k => sh_iload_n dc_Hall_locksOwnedBy_14 rfl rfl k) ?_
  refine sh_caald 2 (k := i) dc_Hall_locksOwnedBy_15 cw_o2 rfl rfl (by omega) (by decide) ?_
  refine sh_ctv (if_neg c0_15) ?_
  refine sh_cp (fun w Z k => sh_astore dc_Hall_locksOwnedBy_16 (by decide) k) ?_
  refine sh_cp (fun w Z k => sh_aload dc_Hall_locksOwnedBy_18 rfl k) ?_
  refine sh_cinstNo (20 + i) dc_Hall_locksOwnedBy_20 wd_290 (cw_oe (by omega) hk_i) rfl wn_50 ?_
  refine sh_cp (fun w Z k => sh_if_eq (tgt := 48) dc_Hall_locksOwnedBy_23 (by decide) (fun _ => k) (fun z => absurd (by decide) z)) ?_
  refine sh_cp (fun w Z k => sh_iinc (v := nI (i + 1)) dc_Hall_locksOwnedBy_48 rfl (sh_nadd rfl (rfl : (1 : Int32) = nI 1)) (by decide) k) ?_
  refine sh_cp (fun w Z k => sh_goto_ (tgt := 4) dc_Hall_locksOwnedBy_51 (by decide) k) ?_
  refine sh_clv [2, 3, 4, 0] rfl ?_
  exact k9
theorem cb_Hall_locksOwnedBy_4_6 {A : Nat → Nat} {K K9 : sh_II} {L L9 : sh_DD} {v9 : Option Value ⊕ Nat} {t : Nat} {y : Int32} {i : Nat} (ht : t < 6) (hi : i < 8) (hx : ¬ 8 ≤ (nI i)) (c0_15 : ¬ cw_cl (K 12 i) = 0) (hk_i : cw_cl (K 12 i) = 6) (k9 : sh_cW A md_Hall_locksOwnedBy (4, [(0, .ref (A 0)), (1, .ref (A (10 + t))), (2, .int y), (3, .int (nI (i + 1)))], []) K L 0 0 v9 K9 L9) : sh_cW A md_Hall_locksOwnedBy (4, [(0, .ref (A 0)), (1, .ref (A (10 + t))), (2, .int y), (3, .int (nI i))], []) K L 0 0 v9 K9 L9 := by
  refine sh_cp (fun w Z k => sh_iload_n dc_Hall_locksOwnedBy_4 rfl rfl k) ?_
  refine sh_cp (fun w Z k => sh_bipush (v := 8) dc_Hall_locksOwnedBy_5 (by decide) k) ?_
  refine sh_cp (fun w Z k => sh_icmp_ge (tgt := 54) dc_Hall_locksOwnedBy_7 (by decide) (fun z => absurd z hx) (fun _ => k)) ?_
  refine sh_cp (fun w Z k => sh_aload_n dc_Hall_locksOwnedBy_10 rfl rfl k) ?_
  refine sh_cget 0 1 dc_Hall_locksOwnedBy_11 cw_o0 rfl (by decide) fl_Hall_20 rfl rfl rfl rfl ?_
  refine sh_cp (fun w Z k => sh_iload_n dc_Hall_locksOwnedBy_14 rfl rfl k) ?_
  refine sh_caald 2 (k := i) dc_Hall_locksOwnedBy_15 cw_o2 rfl rfl (by omega) (by decide) ?_
  refine sh_ctv (if_neg c0_15) ?_
  refine sh_cp (fun w Z k => sh_astore dc_Hall_locksOwnedBy_16 (by decide) k) ?_
  refine sh_cp (fun w Z k => sh_aload dc_Hall_locksOwnedBy_18 rfl k) ?_
  refine sh_cinstNo (20 + i) dc_Hall_locksOwnedBy_20 wd_290 (cw_oa (by omega) hk_i) rfl wn_51 ?_
  refine sh_cp (fun w Z k => sh_if_eq (tgt := 48) dc_Hall_locksOwnedBy_23 (by decide) (fun _ => k) (fun z => absurd (by decide) z)) ?_
  refine sh_cp (fun w Z k => sh_iinc (v := nI (i + 1)) dc_Hall_locksOwnedBy_48 rfl (sh_nadd rfl (rfl : (1 : Int32) = nI 1)) (by decide) k) ?_
  refine sh_cp (fun w Z k => sh_goto_ (tgt := 4) dc_Hall_locksOwnedBy_51 (by decide) k) ?_
  refine sh_clv [2, 3, 4, 0] rfl ?_
  exact k9
theorem cb_Hall_locksOwnedBy_4_7 {A : Nat → Nat} {K K9 : sh_II} {L L9 : sh_DD} {v9 : Option Value ⊕ Nat} {t : Nat} {y : Int32} {i : Nat} (ht : t < 6) (hi : i < 8) (hx : ¬ 8 ≤ (nI i)) (c0_15 : ¬ cw_cl (K 12 i) = 0) (hk_i : cw_cl (K 12 i) = 7) (k9 : sh_cW A md_Hall_locksOwnedBy (4, [(0, .ref (A 0)), (1, .ref (A (10 + t))), (2, .int y), (3, .int (nI (i + 1)))], []) K L 0 0 v9 K9 L9) : sh_cW A md_Hall_locksOwnedBy (4, [(0, .ref (A 0)), (1, .ref (A (10 + t))), (2, .int y), (3, .int (nI i))], []) K L 0 0 v9 K9 L9 := by
  refine sh_cp (fun w Z k => sh_iload_n dc_Hall_locksOwnedBy_4 rfl rfl k) ?_
  refine sh_cp (fun w Z k => sh_bipush (v := 8) dc_Hall_locksOwnedBy_5 (by decide) k) ?_
  refine sh_cp (fun w Z k => sh_icmp_ge (tgt := 54) dc_Hall_locksOwnedBy_7 (by decide) (fun z => absurd z hx) (fun _ => k)) ?_
  refine sh_cp (fun w Z k => sh_aload_n dc_Hall_locksOwnedBy_10 rfl rfl k) ?_
  refine sh_cget 0 1 dc_Hall_locksOwnedBy_11 cw_o0 rfl (by decide) fl_Hall_20 rfl rfl rfl rfl ?_
  refine sh_cp (fun w Z k => sh_iload_n dc_Hall_locksOwnedBy_14 rfl rfl k) ?_
  refine sh_caald 2 (k := i) dc_Hall_locksOwnedBy_15 cw_o2 rfl rfl (by omega) (by decide) ?_
  refine sh_ctv (if_neg c0_15) ?_
  refine sh_cp (fun w Z k => sh_astore dc_Hall_locksOwnedBy_16 (by decide) k) ?_
  refine sh_cp (fun w Z k => sh_aload dc_Hall_locksOwnedBy_18 rfl k) ?_
  refine sh_cinstNo (20 + i) dc_Hall_locksOwnedBy_20 wd_290 (cw_oh (by omega) hk_i) rfl wn_52 ?_
  refine sh_cp (fun w Z k => sh_if_eq (tgt := 48) dc_Hall_locksOwnedBy_23 (by decide) (fun _ => k) (fun z => absurd (by decide) z)) ?_
  refine sh_cp (fun w Z k => sh_iinc (v := nI (i + 1)) dc_Hall_locksOwnedBy_48 rfl (sh_nadd rfl (rfl : (1 : Int32) = nI 1)) (by decide) k) ?_
  refine sh_cp (fun w Z k => sh_goto_ (tgt := 4) dc_Hall_locksOwnedBy_51 (by decide) k) ?_
  refine sh_clv [2, 3, 4, 0] rfl ?_
  exact k9
theorem cb_Hall_locksOwnedBy_4_8 {A : Nat → Nat} {K K9 : sh_II} {L L9 : sh_DD} {v9 : Option Value ⊕ Nat} {t : Nat} {y : Int32} {i : Nat} (ht : t < 6) (hi : i < 8) (hx : ¬ 8 ≤ (nI i)) (c0_15 : ¬ cw_cl (K 12 i) = 0) (hk_i : cw_cl (K 12 i) = 8) (k9 : sh_cW A md_Hall_locksOwnedBy (4, [(0, .ref (A 0)), (1, .ref (A (10 + t))), (2, .int y), (3, .int (nI (i + 1)))], []) K L 0 0 v9 K9 L9) : sh_cW A md_Hall_locksOwnedBy (4, [(0, .ref (A 0)), (1, .ref (A (10 + t))), (2, .int y), (3, .int (nI i))], []) K L 0 0 v9 K9 L9 := by
  refine sh_cp (fun w Z k => sh_iload_n dc_Hall_locksOwnedBy_4 rfl rfl k) ?_
  refine sh_cp (fun w Z k => sh_bipush (v := 8) dc_Hall_locksOwnedBy_5 (by decide) k) ?_
  refine sh_cp (fun w Z k => sh_icmp_ge (tgt := 54) dc_Hall_locksOwnedBy_7 (by decide) (fun z => absurd z hx) (fun _ => k)) ?_
  refine sh_cp (fun w Z k => sh_aload_n dc_Hall_locksOwnedBy_10 rfl rfl k) ?_
  refine sh_cget 0 1 dc_Hall_locksOwnedBy_11 cw_o0 rfl (by decide) fl_Hall_20 rfl rfl rfl rfl ?_
  refine sh_cp (fun w Z k => sh_iload_n dc_Hall_locksOwnedBy_14 rfl rfl k) ?_
  refine sh_caald 2 (k := i) dc_Hall_locksOwnedBy_15 cw_o2 rfl rfl (by omega) (by decide) ?_
  refine sh_ctv (if_neg c0_15) ?_
  refine sh_cp (fun w Z k => sh_astore dc_Hall_locksOwnedBy_16 (by decide) k) ?_
  refine sh_cp (fun w Z k => sh_aload dc_Hall_locksOwnedBy_18 rfl k) ?_
  refine sh_cinstNo (20 + i) dc_Hall_locksOwnedBy_20 wd_290 (cw_oc (by omega) hk_i) rfl wn_53 ?_
  refine sh_cp (fun w Z k => sh_if_eq (tgt := 48) dc_Hall_locksOwnedBy_23 (by decide) (fun _ => k) (fun z => absurd (by decide) z)) ?_
  refine sh_cp (fun w Z k => sh_iinc (v := nI (i + 1)) dc_Hall_locksOwnedBy_48 rfl (sh_nadd rfl (rfl : (1 : Int32) = nI 1)) (by decide) k) ?_
  refine sh_cp (fun w Z k => sh_goto_ (tgt := 4) dc_Hall_locksOwnedBy_51 (by decide) k) ?_
  refine sh_clv [2, 3, 4, 0] rfl ?_
  exact k9
theorem cb_Hall_nextLate_p_0_1 {A : Nat → Nat} {K K9 : sh_II} {L L9 : sh_DD} {v9 : Option Value ⊕ Nat}  (k9 : sh_cW A md_Hall_nextLate (4, [(0, .ref (A 0)), (1, .null), (2, .int 0)], []) K L 0 0 v9 K9 L9) : sh_cW A md_Hall_nextLate (0, [(0, .ref (A 0))], []) K L 0 0 v9 K9 L9 := by
  refine sh_cp (fun w Z k => sh_anull dc_Hall_nextLate_0 k) ?_
  refine sh_cp (fun w Z k => sh_astore_nN dc_Hall_nextLate_1 rfl (by decide) k) ?_
  refine sh_cp (fun w Z k => sh_iconst (v := 0) dc_Hall_nextLate_2 (by decide) k) ?_
  refine sh_cp (fun w Z k => sh_istore_n dc_Hall_nextLate_3 rfl (by decide) k) ?_
  refine sh_clv [2, 1, 0] rfl ?_
  exact k9
theorem cb_Hall_nextLate_en_4_1 {A : Nat → Nat} {K : sh_II} {L : sh_DD} {i : Nat} (hx : 6 ≤ (nI i)) : sh_cW A md_Hall_nextLate (4, [(0, .ref (A 0)), (1, .null), (2, .int (nI i))], []) K L 0 0 (.inl (some (.null))) K L := by
  refine sh_cp (fun w Z k => sh_iload_n dc_Hall_nextLate_4 rfl rfl k) ?_
  refine sh_cp (fun w Z k => sh_bipush (v := 6) dc_Hall_nextLate_5 (by decide) k) ?_
  refine sh_cp (fun w Z k => sh_icmp_ge (tgt := 60) dc_Hall_nextLate_7 (by decide) (fun _ => k) (fun z => absurd hx z)) ?_
  refine sh_cp (fun w Z k => sh_aload_nq (x := none) dc_Hall_nextLate_60 rfl rfl k) ?_
  show sh_cW _ _ (_, _, .null :: _) _ _ _ _ _ _ _
  exact sh_ce (fun w => sh_areturn (v := none) dc_Hall_nextLate_61 rfl (by decide) (by decide))
theorem cb_Hall_nextLate_n_4_1 {A : Nat → Nat} {K K9 : sh_II} {L L9 : sh_DD} {v9 : Option Value ⊕ Nat} {i : Nat} (hi : i < 6) (hx : ¬ 6 ≤ (nI i)) (c0_21 : (K 26 i) = 0) (k9 : sh_cW A md_Hall_nextLate (4, [(0, .ref (A 0)), (1, .null), (2, .int (nI (i + 1)))], []) K L 0 0 v9 K9 L9) : sh_cW A md_Hall_nextLate (4, [(0, .ref (A 0)), (1, .null), (2, .int (nI i))], []) K L 0 0 v9 K9 L9 := by
  refine sh_cp (fun w Z k => sh_iload_n dc_Hall_nextLate_4 rfl rfl k) ?_
  refine sh_cp (fun w Z k => sh_bipush (v := 6) dc_Hall_nextLate_5 (by decide) k) ?_
  refine sh_cp (fun w Z k => sh_icmp_ge (tgt := 60) dc_Hall_nextLate_7 (by decide) (fun z => absurd z hx) (fun _ => k)) ?_
  refine sh_cp (fun w Z k => sh_aload_n dc_Hall_nextLate_10 rfl rfl k) ?_
  refine sh_cget 0 0 dc_Hall_nextLate_11 cw_o0 rfl (by decide) fl_Hall_11 rfl rfl rfl rfl ?_
  refine sh_cp (fun w Z k => sh_iload_n dc_Hall_nextLate_14 rfl rfl k) ?_
  refine sh_caald 1 (k := i) dc_Hall_nextLate_15 cw_o1 rfl rfl (by omega) (by decide) ?_
  refine sh_cp (fun w Z k => sh_astore_n dc_Hall_nextLate_16 rfl (by decide) k) ?_
  refine sh_cp (fun w Z k => sh_aload_n dc_Hall_nextLate_17 rfl rfl k) ?_
  refine sh_cget (10 + i) 6 dc_Hall_nextLate_18 (cw_ow (by omega)) rfl (by decide) fl_Hall_303 rfl rfl rfl rfl ?_
  refine sh_cp (fun w Z k => sh_if_eq (tgt := 54) dc_Hall_nextLate_21 (by decide) (fun _ => k) (fun z => absurd c0_21 z)) ?_
  refine sh_cp (fun w Z k => sh_iinc (v := nI (i + 1)) dc_Hall_nextLate_54 rfl (sh_nadd rfl (rfl : (1 : Int32) = nI 1)) (by decide) k) ?_
  refine sh_cp (fun w Z k => sh_goto_ (tgt := 4) dc_Hall_nextLate_57 (by decide) k) ?_
  refine sh_clv [2, 3, 0] rfl ?_
  exact k9
theorem cb_Hall_nextLate_n_4_2 {A : Nat → Nat} {K K9 : sh_II} {L L9 : sh_DD} {v9 : Option Value ⊕ Nat} {i : Nat} (hi : i < 6) (hx : ¬ 6 ≤ (nI i)) (c0_21 : ¬ (K 26 i) = 0) (c1_33 : 0 < (Op.cmpValue (FP.dcmp (L 7 i) (L 11 0)) .g)) (k9 : sh_cW A md_Hall_nextLate (4, [(0, .ref (A 0)), (1, .null), (2, .int (nI (i + 1)))], []) K L 0 0 v9 K9 L9) : sh_cW A md_Hall_nextLate (4, [(0, .ref (A 0)), (1, .null), (2, .int (nI i))], []) K L 0 0 v9 K9 L9 := by
  refine sh_cp (fun w Z k => sh_iload_n dc_Hall_nextLate_4 rfl rfl k) ?_
  refine sh_cp (fun w Z k => sh_bipush (v := 6) dc_Hall_nextLate_5 (by decide) k) ?_
  refine sh_cp (fun w Z k => sh_icmp_ge (tgt := 60) dc_Hall_nextLate_7 (by decide) (fun z => absurd z hx) (fun _ => k)) ?_
  refine sh_cp (fun w Z k => sh_aload_n dc_Hall_nextLate_10 rfl rfl k) ?_
  refine sh_cget 0 0 dc_Hall_nextLate_11 cw_o0 rfl (by decide) fl_Hall_11 rfl rfl rfl rfl ?_
  refine sh_cp (fun w Z k => sh_iload_n dc_Hall_nextLate_14 rfl rfl k) ?_
  refine sh_caald 1 (k := i) dc_Hall_nextLate_15 cw_o1 rfl rfl (by omega) (by decide) ?_
  refine sh_cp (fun w Z k => sh_astore_n dc_Hall_nextLate_16 rfl (by decide) k) ?_
  refine sh_cp (fun w Z k => sh_aload_n dc_Hall_nextLate_17 rfl rfl k) ?_
  refine sh_cget (10 + i) 6 dc_Hall_nextLate_18 (cw_ow (by omega)) rfl (by decide) fl_Hall_303 rfl rfl rfl rfl ?_
  refine sh_cp (fun w Z k => sh_if_eq (tgt := 54) dc_Hall_nextLate_21 (by decide) (fun z => absurd z c0_21) (fun _ => k)) ?_
  refine sh_cp (fun w Z k => sh_aload_n dc_Hall_nextLate_24 rfl rfl k) ?_
  refine sh_cget (10 + i) 7 dc_Hall_nextLate_25 (cw_ow (by omega)) rfl (by decide) fl_Hall_306 rfl rfl rfl rfl ?_
  refine sh_cp (fun w Z k => sh_aload_n dc_Hall_nextLate_28 rfl rfl k) ?_
  refine sh_cget 0 4 dc_Hall_nextLate_29 cw_o0 rfl (by decide) fl_Hall_35 rfl rfl rfl rfl ?_
  refine sh_cp (fun w Z k => sh_dcmp dc_Hall_nextLate_32 k) ?_
  refine sh_cp (fun w Z k => sh_if_gt (tgt := 54) dc_Hall_nextLate_33 (by decide) (fun _ => k) (fun z => absurd c1_33 z)) ?_
  refine sh_cp (fun w Z k => sh_iinc (v := nI (i + 1)) dc_Hall_nextLate_54 rfl (sh_nadd rfl (rfl : (1 : Int32) = nI 1)) (by decide) k) ?_
  refine sh_cp (fun w Z k => sh_goto_ (tgt := 4) dc_Hall_nextLate_57 (by decide) k) ?_
  refine sh_clv [2, 3, 0] rfl ?_
  exact k9
theorem cb_Hall_nextLate_n_4_3 {A : Nat → Nat} {K K9 : sh_II} {L L9 : sh_DD} {v9 : Option Value ⊕ Nat} {i : Nat} (hi : i < 6) (hx : ¬ 6 ≤ (nI i)) (c0_21 : ¬ (K 26 i) = 0) (c1_33 : ¬ 0 < (Op.cmpValue (FP.dcmp (L 7 i) (L 11 0)) .g)) (k9 : sh_cW A md_Hall_nextLate (4, [(0, .ref (A 0)), (1, .ref (A (10 + i))), (2, .int (nI (i + 1)))], []) K L 0 0 v9 K9 L9) : sh_cW A md_Hall_nextLate (4, [(0, .ref (A 0)), (1, .null), (2, .int (nI i))], []) K L 0 0 v9 K9 L9 := by
  refine sh_cp (fun w Z k => sh_iload_n dc_Hall_nextLate_4 rfl rfl k) ?_
  refine sh_cp (fun w Z k => sh_bipush (v := 6) dc_Hall_nextLate_5 (by decide) k) ?_
  refine sh_cp (fun w Z k => sh_icmp_ge (tgt := 60) dc_Hall_nextLate_7 (by decide) (fun z => absurd z hx) (fun _ => k)) ?_
  refine sh_cp (fun w Z k => sh_aload_n dc_Hall_nextLate_10 rfl rfl k) ?_
  refine sh_cget 0 0 dc_Hall_nextLate_11 cw_o0 rfl (by decide) fl_Hall_11 rfl rfl rfl rfl ?_
  refine sh_cp (fun w Z k => sh_iload_n dc_Hall_nextLate_14 rfl rfl k) ?_
  refine sh_caald 1 (k := i) dc_Hall_nextLate_15 cw_o1 rfl rfl (by omega) (by decide) ?_
  refine sh_cp (fun w Z k => sh_astore_n dc_Hall_nextLate_16 rfl (by decide) k) ?_
  refine sh_cp (fun w Z k => sh_aload_n dc_Hall_nextLate_17 rfl rfl k) ?_
  refine sh_cget (10 + i) 6 dc_Hall_nextLate_18 (cw_ow (by omega)) rfl (by decide) fl_Hall_303 rfl rfl rfl rfl ?_
  refine sh_cp (fun w Z k => sh_if_eq (tgt := 54) dc_Hall_nextLate_21 (by decide) (fun z => absurd z c0_21) (fun _ => k)) ?_
  refine sh_cp (fun w Z k => sh_aload_n dc_Hall_nextLate_24 rfl rfl k) ?_
  refine sh_cget (10 + i) 7 dc_Hall_nextLate_25 (cw_ow (by omega)) rfl (by decide) fl_Hall_306 rfl rfl rfl rfl ?_
  refine sh_cp (fun w Z k => sh_aload_n dc_Hall_nextLate_28 rfl rfl k) ?_
  refine sh_cget 0 4 dc_Hall_nextLate_29 cw_o0 rfl (by decide) fl_Hall_35 rfl rfl rfl rfl ?_
  refine sh_cp (fun w Z k => sh_dcmp dc_Hall_nextLate_32 k) ?_
  refine sh_cp (fun w Z k => sh_if_gt (tgt := 54) dc_Hall_nextLate_33 (by decide) (fun z => absurd z c1_33) (fun _ => k)) ?_
  refine sh_cp (fun w Z k => sh_aload_nq (x := none) dc_Hall_nextLate_36 rfl rfl k) ?_
  show sh_cW _ _ (_, _, .null :: _) _ _ _ _ _ _ _
  refine sh_cp (fun w Z k => sh_ifnullN (tgt := 52) dc_Hall_nextLate_37 (by decide) k) ?_
  refine sh_cp (fun w Z k => sh_aload_n dc_Hall_nextLate_52 rfl rfl k) ?_
  refine sh_cp (fun w Z k => sh_astore_n dc_Hall_nextLate_53 rfl (by decide) k) ?_
  refine sh_cp (fun w Z k => sh_iinc (v := nI (i + 1)) dc_Hall_nextLate_54 rfl (sh_nadd rfl (rfl : (1 : Int32) = nI 1)) (by decide) k) ?_
  refine sh_cp (fun w Z k => sh_goto_ (tgt := 4) dc_Hall_nextLate_57 (by decide) k) ?_
  refine sh_clv [3, 1, 0] rfl ?_
  exact k9
theorem cb_Hall_nextLate_eb_4_1 {A : Nat → Nat} {K : sh_II} {L : sh_DD} {b : Nat} {i : Nat} (hb : b < 6) (hx : 6 ≤ (nI i)) : sh_cW A md_Hall_nextLate (4, [(0, .ref (A 0)), (1, .ref (A (10 + b))), (2, .int (nI i))], []) K L 0 0 (.inl (some (.ref (A (10 + b))))) K L := by
  refine sh_cp (fun w Z k => sh_iload_n dc_Hall_nextLate_4 rfl rfl k) ?_
  refine sh_cp (fun w Z k => sh_bipush (v := 6) dc_Hall_nextLate_5 (by decide) k) ?_
  refine sh_cp (fun w Z k => sh_icmp_ge (tgt := 60) dc_Hall_nextLate_7 (by decide) (fun _ => k) (fun z => absurd hx z)) ?_
  refine sh_cp (fun w Z k => sh_aload_n dc_Hall_nextLate_60 rfl rfl k) ?_
  exact sh_ce (fun w => sh_areturn (v := (some (A (10 + b)))) dc_Hall_nextLate_61 rfl (by decide) (by decide))
theorem cb_Hall_nextLate_b_4_1 {A : Nat → Nat} {K K9 : sh_II} {L L9 : sh_DD} {v9 : Option Value ⊕ Nat} {b : Nat} {i : Nat} (hb : b < 6) (hi : i < 6) (hx : ¬ 6 ≤ (nI i)) (c0_21 : (K 26 i) = 0) (k9 : sh_cW A md_Hall_nextLate (4, [(0, .ref (A 0)), (1, .ref (A (10 + b))), (2, .int (nI (i + 1)))], []) K L 0 0 v9 K9 L9) : sh_cW A md_Hall_nextLate (4, [(0, .ref (A 0)), (1, .ref (A (10 + b))), (2, .int (nI i))], []) K L 0 0 v9 K9 L9 := by
  refine sh_cp (fun w Z k => sh_iload_n dc_Hall_nextLate_4 rfl rfl k) ?_
  refine sh_cp (fun w Z k => sh_bipush (v := 6) dc_Hall_nextLate_5 (by decide) k) ?_
  refine sh_cp (fun w Z k => sh_icmp_ge (tgt := 60) dc_Hall_nextLate_7 (by decide) (fun z => absurd z hx) (fun _ => k)) ?_
  refine sh_cp (fun w Z k => sh_aload_n dc_Hall_nextLate_10 rfl rfl k) ?_
  refine sh_cget 0 0 dc_Hall_nextLate_11 cw_o0 rfl (by decide) fl_Hall_11 rfl rfl rfl rfl ?_
  refine sh_cp (fun w Z k => sh_iload_n dc_Hall_nextLate_14 rfl rfl k) ?_
  refine sh_caald 1 (k := i) dc_Hall_nextLate_15 cw_o1 rfl rfl (by omega) (by decide) ?_
  refine sh_cp (fun w Z k => sh_astore_n dc_Hall_nextLate_16 rfl (by decide) k) ?_
  refine sh_cp (fun w Z k => sh_aload_n dc_Hall_nextLate_17 rfl rfl k) ?_
  refine sh_cget (10 + i) 6 dc_Hall_nextLate_18 (cw_ow (by omega)) rfl (by decide) fl_Hall_303 rfl rfl rfl rfl ?_
  refine sh_cp (fun w Z k => sh_if_eq (tgt := 54) dc_Hall_nextLate_21 (by decide) (fun _ => k) (fun z => absurd c0_21 z)) ?_
  refine sh_cp (fun w Z k => sh_iinc (v := nI (i + 1)) dc_Hall_nextLate_54 rfl (sh_nadd rfl (rfl : (1 : Int32) = nI 1)) (by decide) k) ?_
  refine sh_cp (fun w Z k => sh_goto_ (tgt := 4) dc_Hall_nextLate_57 (by decide) k) ?_
  refine sh_clv [2, 3, 0] rfl ?_
  exact k9
theorem cb_Hall_nextLate_b_4_2 {A : Nat → Nat} {K K9 : sh_II} {L L9 : sh_DD} {v9 : Option Value ⊕ Nat} {b : Nat} {i : Nat} (hb : b < 6) (hi : i < 6) (hx : ¬ 6 ≤ (nI i)) (c0_21 : ¬ (K 26 i) = 0) (c1_33 : 0 < (Op.cmpValue (FP.dcmp (L 7 i) (L 11 0)) .g)) (k9 : sh_cW A md_Hall_nextLate (4, [(0, .ref (A 0)), (1, .ref (A (10 + b))), (2, .int (nI (i + 1)))], []) K L 0 0 v9 K9 L9) : sh_cW A md_Hall_nextLate (4, [(0, .ref (A 0)), (1, .ref (A (10 + b))), (2, .int (nI i))], []) K L 0 0 v9 K9 L9 := by
  refine sh_cp (fun w Z k => sh_iload_n dc_Hall_nextLate_4 rfl rfl k) ?_
  refine sh_cp (fun w Z k => sh_bipush (v := 6) dc_Hall_nextLate_5 (by decide) k) ?_
  refine sh_cp (fun w Z k => sh_icmp_ge (tgt := 60) dc_Hall_nextLate_7 (by decide) (fun z => absurd z hx) (fun _ => k)) ?_
  refine sh_cp (fun w Z k => sh_aload_n dc_Hall_nextLate_10 rfl rfl k) ?_
  refine sh_cget 0 0 dc_Hall_nextLate_11 cw_o0 rfl (by decide) fl_Hall_11 rfl rfl rfl rfl ?_
  refine sh_cp (fun w Z k => sh_iload_n dc_Hall_nextLate_14 rfl rfl k) ?_
  refine sh_caald 1 (k := i) dc_Hall_nextLate_15 cw_o1 rfl rfl (by omega) (by decide) ?_
  refine sh_cp (fun w Z k => sh_astore_n dc_Hall_nextLate_16 rfl (by decide) k) ?_
  refine sh_cp (fun w Z k => sh_aload_n dc_Hall_nextLate_17 rfl rfl k) ?_
  refine sh_cget (10 + i) 6 dc_Hall_nextLate_18 (cw_ow (by omega)) rfl (by decide) fl_Hall_303 rfl rfl rfl rfl ?_
  refine sh_cp (fun w Z k => sh_if_eq (tgt := 54) dc_Hall_nextLate_21 (by decide) (fun z => absurd z c0_21) (fun _ => k)) ?_
  refine sh_cp (fun w Z k => sh_aload_n dc_Hall_nextLate_24 rfl rfl k) ?_
  refine sh_cget (10 + i) 7 dc_Hall_nextLate_25 (cw_ow (by omega)) rfl (by decide) fl_Hall_306 rfl rfl rfl rfl ?_
  refine sh_cp (fun w Z k => sh_aload_n dc_Hall_nextLate_28 rfl rfl k) ?_
  refine sh_cget 0 4 dc_Hall_nextLate_29 cw_o0 rfl (by decide) fl_Hall_35 rfl rfl rfl rfl ?_
  refine sh_cp (fun w Z k => sh_dcmp dc_Hall_nextLate_32 k) ?_
  refine sh_cp (fun w Z k => sh_if_gt (tgt := 54) dc_Hall_nextLate_33 (by decide) (fun _ => k) (fun z => absurd c1_33 z)) ?_
  refine sh_cp (fun w Z k => sh_iinc (v := nI (i + 1)) dc_Hall_nextLate_54 rfl (sh_nadd rfl (rfl : (1 : Int32) = nI 1)) (by decide) k) ?_
  refine sh_cp (fun w Z k => sh_goto_ (tgt := 4) dc_Hall_nextLate_57 (by decide) k) ?_
  refine sh_clv [2, 3, 0] rfl ?_
  exact k9
theorem cb_Hall_nextLate_b_4_3 {A : Nat → Nat} {K K9 : sh_II} {L L9 : sh_DD} {v9 : Option Value ⊕ Nat} {b : Nat} {i : Nat} (hb : b < 6) (hi : i < 6) (hx : ¬ 6 ≤ (nI i)) (c0_21 : ¬ (K 26 i) = 0) (c1_33 : ¬ 0 < (Op.cmpValue (FP.dcmp (L 7 i) (L 11 0)) .g)) (c2_49 : 0 ≤ (Op.cmpValue (FP.dcmp (L 7 i) (L 7 b)) .g)) (k9 : sh_cW A md_Hall_nextLate (4, [(0, .ref (A 0)), (1, .ref (A (10 + b))), (2, .int (nI (i + 1)))], []) K L 0 0 v9 K9 L9) : sh_cW A md_Hall_nextLate (4, [(0, .ref (A 0)), (1, .ref (A (10 + b))), (2, .int (nI i))], []) K L 0 0 v9 K9 L9 := by
  refine sh_cp (fun w Z k => sh_iload_n dc_Hall_nextLate_4 rfl rfl k) ?_
  refine sh_cp (fun w Z k => sh_bipush (v := 6) dc_Hall_nextLate_5 (by decide) k) ?_
  refine sh_cp (fun w Z k => sh_icmp_ge (tgt := 60) dc_Hall_nextLate_7 (by decide) (fun z => absurd z hx) (fun _ => k)) ?_
  refine sh_cp (fun w Z k => sh_aload_n dc_Hall_nextLate_10 rfl rfl k) ?_
  refine sh_cget 0 0 dc_Hall_nextLate_11 cw_o0 rfl (by decide) fl_Hall_11 rfl rfl rfl rfl ?_
  refine sh_cp (fun w Z k => sh_iload_n dc_Hall_nextLate_14 rfl rfl k) ?_
  refine sh_caald 1 (k := i) dc_Hall_nextLate_15 cw_o1 rfl rfl (by omega) (by decide) ?_
  refine sh_cp (fun w Z k => sh_astore_n dc_Hall_nextLate_16 rfl (by decide) k) ?_
  refine sh_cp (fun w Z k => sh_aload_n dc_Hall_nextLate_17 rfl rfl k) ?_
  refine sh_cget (10 + i) 6 dc_Hall_nextLate_18 (cw_ow (by omega)) rfl (by decide) fl_Hall_303 rfl rfl rfl rfl ?_
  refine sh_cp (fun w Z k => sh_if_eq (tgt := 54) dc_Hall_nextLate_21 (by decide) (fun z => absurd z c0_21) (fun _ => k)) ?_
  refine sh_cp (fun w Z k => sh_aload_n dc_Hall_nextLate_24 rfl rfl k) ?_
  refine sh_cget (10 + i) 7 dc_Hall_nextLate_25 (cw_ow (by omega)) rfl (by decide) fl_Hall_306 rfl rfl rfl rfl ?_
  refine sh_cp (fun w Z k => sh_aload_n dc_Hall_nextLate_28 rfl rfl k) ?_
  refine sh_cget 0 4 dc_Hall_nextLate_29 cw_o0 rfl (by decide) fl_Hall_35 rfl rfl rfl rfl ?_
  refine sh_cp (fun w Z k => sh_dcmp dc_Hall_nextLate_32 k) ?_
  refine sh_cp (fun w Z k => sh_if_gt (tgt := 54) dc_Hall_nextLate_33 (by decide) (fun z => absurd z c1_33) (fun _ => k)) ?_
  refine sh_cp (fun w Z k => sh_aload_n dc_Hall_nextLate_36 rfl rfl k) ?_
  refine sh_cp (fun w Z k => sh_ifnull dc_Hall_nextLate_37 k) ?_
  refine sh_cp (fun w Z k => sh_aload_n dc_Hall_nextLate_40 rfl rfl k) ?_
  refine sh_cget (10 + i) 7 dc_Hall_nextLate_41 (cw_ow (by omega)) rfl (by decide) fl_Hall_306 rfl rfl rfl rfl ?_
  refine sh_cp (fun w Z k => sh_aload_n dc_Hall_nextLate_44 rfl rfl k) ?_
  refine sh_cget (10 + b) 7 dc_Hall_nextLate_45 (cw_ow (by omega)) rfl (by decide) fl_Hall_306 rfl rfl rfl rfl ?_
  refine sh_cp (fun w Z k => sh_dcmp dc_Hall_nextLate_48 k) ?_
  refine sh_cp (fun w Z k => sh_if_ge (tgt := 54) dc_Hall_nextLate_49 (by decide) (fun _ => k) (fun z => absurd c2_49 z)) ?_
  refine sh_cp (fun w Z k => sh_iinc (v := nI (i + 1)) dc_Hall_nextLate_54 rfl (sh_nadd rfl (rfl : (1 : Int32) = nI 1)) (by decide) k) ?_
  refine sh_cp (fun w Z k => sh_goto_ (tgt := 4) dc_Hall_nextLate_57 (by decide) k) ?_
  refine sh_clv [2, 3, 0] rfl ?_
  exact k9
theorem cb_Hall_nextLate_b_4_4 {A : Nat → Nat} {K K9 : sh_II} {L L9 : sh_DD} {v9 : Option Value ⊕ Nat} {b : Nat} {i : Nat} (hb : b < 6) (hi : i < 6) (hx : ¬ 6 ≤ (nI i)) (c0_21 : ¬ (K 26 i) = 0) (c1_33 : ¬ 0 < (Op.cmpValue (FP.dcmp (L 7 i) (L 11 0)) .g)) (c2_49 : ¬ 0 ≤ (Op.cmpValue (FP.dcmp (L 7 i) (L 7 b)) .g)) (k9 : sh_cW A md_Hall_nextLate (4, [(0, .ref (A 0)), (1, .ref (A (10 + i))), (2, .int (nI (i + 1)))], []) K L 0 0 v9 K9 L9) : sh_cW A md_Hall_nextLate (4, [(0, .ref (A 0)), (1, .ref (A (10 + b))), (2, .int (nI i))], []) K L 0 0 v9 K9 L9 := by
  refine sh_cp (fun w Z k => sh_iload_n dc_Hall_nextLate_4 rfl rfl k) ?_
  refine sh_cp (fun w Z k => sh_bipush (v := 6) dc_Hall_nextLate_5 (by decide) k) ?_
  refine sh_cp (fun w Z k => sh_icmp_ge (tgt := 60) dc_Hall_nextLate_7 (by decide) (fun z => absurd z hx) (fun _ => k)) ?_
  refine sh_cp (fun w Z k => sh_aload_n dc_Hall_nextLate_10 rfl rfl k) ?_
  refine sh_cget 0 0 dc_Hall_nextLate_11 cw_o0 rfl (by decide) fl_Hall_11 rfl rfl rfl rfl ?_
  refine sh_cp (fun w Z k => sh_iload_n dc_Hall_nextLate_14 rfl rfl k) ?_
  refine sh_caald 1 (k := i) dc_Hall_nextLate_15 cw_o1 rfl rfl (by omega) (by decide) ?_
  refine sh_cp (fun w Z k => sh_astore_n dc_Hall_nextLate_16 rfl (by decide) k) ?_
  refine sh_cp (fun w Z k => sh_aload_n dc_Hall_nextLate_17 rfl rfl k) ?_
  refine sh_cget (10 + i) 6 dc_Hall_nextLate_18 (cw_ow (by omega)) rfl (by decide) fl_Hall_303 rfl rfl rfl rfl ?_
  refine sh_cp (fun w Z k => sh_if_eq (tgt := 54) dc_Hall_nextLate_21 (by decide) (fun z => absurd z c0_21) (fun _ => k)) ?_
  refine sh_cp (fun w Z k => sh_aload_n dc_Hall_nextLate_24 rfl rfl k) ?_
  refine sh_cget (10 + i) 7 dc_Hall_nextLate_25 (cw_ow (by omega)) rfl (by decide) fl_Hall_306 rfl rfl rfl rfl ?_
  refine sh_cp (fun w Z k => sh_aload_n dc_Hall_nextLate_28 rfl rfl k) ?_
  refine sh_cget 0 4 dc_Hall_nextLate_29 cw_o0 rfl (by decide) fl_Hall_35 rfl rfl rfl rfl ?_
  refine sh_cp (fun w Z k => sh_dcmp dc_Hall_nextLate_32 k) ?_
  refine sh_cp (fun w Z k => sh_if_gt (tgt := 54) dc_Hall_nextLate_33 (by decide) (fun z => absurd z c1_33) (fun _ => k)) ?_
  refine sh_cp (fun w Z k => sh_aload_n dc_Hall_nextLate_36 rfl rfl k) ?_
  refine sh_cp (fun w Z k => sh_ifnull dc_Hall_nextLate_37 k) ?_
  refine sh_cp (fun w Z k => sh_aload_n dc_Hall_nextLate_40 rfl rfl k) ?_
  refine sh_cget (10 + i) 7 dc_Hall_nextLate_41 (cw_ow (by omega)) rfl (by decide) fl_Hall_306 rfl rfl rfl rfl ?_
  refine sh_cp (fun w Z k => sh_aload_n dc_Hall_nextLate_44 rfl rfl k) ?_
  refine sh_cget (10 + b) 7 dc_Hall_nextLate_45 (cw_ow (by omega)) rfl (by decide) fl_Hall_306 rfl rfl rfl rfl ?_
  refine sh_cp (fun w Z k => sh_dcmp dc_Hall_nextLate_48 k) ?_
  refine sh_cp (fun w Z k => sh_if_ge (tgt := 54) dc_Hall_nextLate_49 (by decide) (fun z => absurd z c2_49) (fun _ => k)) ?_
  refine sh_cp (fun w Z k => sh_aload_n dc_Hall_nextLate_52 rfl rfl k) ?_
  refine sh_cp (fun w Z k => sh_astore_n dc_Hall_nextLate_53 rfl (by decide) k) ?_
  refine sh_cp (fun w Z k => sh_iinc (v := nI (i + 1)) dc_Hall_nextLate_54 rfl (sh_nadd rfl (rfl : (1 : Int32) = nI 1)) (by decide) k) ?_
  refine sh_cp (fun w Z k => sh_goto_ (tgt := 4) dc_Hall_nextLate_57 (by decide) k) ?_
  refine sh_clv [3, 1, 0] rfl ?_
  exact k9
