theorem cb_Hall_signal_p_0_1 {A : Nat → Nat} {K : sh_II} {L : sh_DD} {t : Nat} {s : Nat} {a : Int32} {q : Nat} (ht : t < 6) (hs : s < 8) (hq : q < 8) (eq : K 16 s = nI q) (hp : (K 5 t) = -1) (hk_s : cw_cl (K 12 s) = 8) (hk_q : cw_cl (K 12 q) = 4) (c0_11 : (K 13 q) = -1) : sh_cW A md_Hall_signal (0, [(0, .ref (A 0)), (1, .int (nI t)), (2, .int (nI s)), (3, .int a)], []) K L 0 0 (.inr 3) K L := by
  refine sh_cp (fun w Z k => sh_aload_n dc_Hall_signal_0 rfl rfl k) ?_
  refine sh_cp (fun w Z k => sh_iload_n dc_Hall_signal_1 rfl rfl k) ?_
  refine sh_ccall (fun w hw => sh_virt (As := [.int (nI t)]) dc_Hall_signal_2 lm_Hall_workerAt ln_Hall_62 wd_448 wd_3 rfl rfl (Nat.le_of_ble_eq_true rfl) (hw _ _ cw_o0) rfl) (ct_Hall_workerAt_1 (t := t) (by omega)) ⟨(Nat.le_of_ble_eq_true rfl), (Nat.le_of_ble_eq_true rfl), (Nat.le_of_ble_eq_true rfl), (Nat.le_of_ble_eq_true rfl)⟩ ?_
  show sh_cW _ _ (_, _, [.ref (A (10 + t))]) K L _ _ _ _ _
  refine sh_cp (fun w Z k => sh_astore dc_Hall_signal_5 (by decide) k) ?_
  refine sh_cp (fun w Z k => sh_aload_n dc_Hall_signal_7 rfl rfl k) ?_
  refine sh_cp (fun w Z k => sh_aload dc_Hall_signal_8 rfl k) ?_
  refine sh_cp (fun w Z k => sh_iload_n dc_Hall_signal_10 rfl rfl k) ?_
  exact sh_ccallT (fun w hw => sh_virt (As := [.ref (A (10 + t)), .int (nI s)]) dc_Hall_signal_11 lm_Hall_conditionFor ln_Hall_147 wd_733 wd_24 rfl rfl (Nat.le_of_ble_eq_true rfl) (hw _ _ cw_o0) rfl) (ct_Hall_conditionFor_Condition_1 (t := t) (s := s) (q := q) (by omega) (by omega) (by omega) eq hk_s hk_q hp c0_11) ⟨(Nat.le_of_ble_eq_true rfl), (Nat.le_of_ble_eq_true rfl), (Nat.le_of_ble_eq_true rfl), (Nat.le_of_ble_eq_true rfl)⟩ rfl
theorem cb_Hall_signal_p_0_2 {A : Nat → Nat} {K K9 : sh_II} {L L9 : sh_DD} {v9 : Option Value ⊕ Nat} {t : Nat} {s : Nat} {a : Int32} {q : Nat} {u13_11 : Nat} (ht : t < 6) (hs : s < 8) (hq : q < 8) (eq : K 16 s = nI q) (hp : (K 5 t) = -1) (hk_s : cw_cl (K 12 s) = 8) (hk_q : cw_cl (K 12 q) = 4) (hu13_11 : u13_11 < 6) (c1_11 : (K 13 q) = nI u13_11) (c2_11 : u13_11 = t) (c3_27 : a = 0) (c4_33 : (K 19 s) ≤ 1) (k9 : sh_cW A md_Hall_signal (42, [(0, .ref (A 0)), (5, .ref (A (20 + s))), (6, .int (K 19 s)), (7, .int 0)], []) K L 6 36 v9 K9 L9) : sh_cW A md_Hall_signal (0, [(0, .ref (A 0)), (1, .int (nI t)), (2, .int (nI s)), (3, .int a)], []) K L 0 0 v9 K9 L9 := by
  refine sh_cp (fun w Z k => sh_aload_n dc_Hall_signal_0 rfl rfl k) ?_
  refine sh_cp (fun w Z k => sh_iload_n dc_Hall_signal_1 rfl rfl k) ?_
  refine sh_ccall (fun w hw => sh_virt (As := [.int (nI t)]) dc_Hall_signal_2 lm_Hall_workerAt ln_Hall_62 wd_448 wd_3 rfl rfl (Nat.le_of_ble_eq_true rfl) (hw _ _ cw_o0) rfl) (ct_Hall_workerAt_1 (t := t) (by omega)) ⟨(Nat.le_of_ble_eq_true rfl), (Nat.le_of_ble_eq_true rfl), (Nat.le_of_ble_eq_true rfl), (Nat.le_of_ble_eq_true rfl)⟩ ?_
  show sh_cW _ _ (_, _, [.ref (A (10 + t))]) K L _ _ _ _ _
  refine sh_cp (fun w Z k => sh_astore dc_Hall_signal_5 (by decide) k) ?_
  refine sh_cp (fun w Z k => sh_aload_n dc_Hall_signal_7 rfl rfl k) ?_
  refine sh_cp (fun w Z k => sh_aload dc_Hall_signal_8 rfl k) ?_
  refine sh_cp (fun w Z k => sh_iload_n dc_Hall_signal_10 rfl rfl k) ?_
  refine sh_ccall (fun w hw => sh_virt (As := [.ref (A (10 + t)), .int (nI s)]) dc_Hall_signal_11 lm_Hall_conditionFor ln_Hall_147 wd_733 wd_24 rfl rfl (Nat.le_of_ble_eq_true rfl) (hw _ _ cw_o0) rfl) (ct_Hall_conditionFor_Condition_2 (t := t) (s := s) (q := q) (u13_29 := u13_11) (by omega) (by omega) (by omega) eq hk_s hk_q hp (by omega) c1_11 c2_11) ⟨(Nat.le_of_ble_eq_true rfl), (Nat.le_of_ble_eq_true rfl), (Nat.le_of_ble_eq_true rfl), (Nat.le_of_ble_eq_true rfl)⟩ ?_
  show sh_cW _ _ (_, _, [.ref (A (20 + s))]) K L _ _ _ _ _
  refine sh_cp (fun w Z k => sh_astore dc_Hall_signal_14 (by decide) k) ?_
  refine sh_cp (fun w Z k => sh_aload dc_Hall_signal_16 rfl k) ?_
  refine sh_cget (20 + s) 1 dc_Hall_signal_18 (cw_oc (by omega) hk_s) rfl (by decide) fl_Hall_171 rfl rfl rfl rfl ?_
  refine sh_ccall (fun w hw => sh_virt (As := []) dc_Hall_signal_21 lm_Waiters_size ln_Hall_134 wd_552 wd_12 rfl rfl (Nat.le_of_ble_eq_true rfl) (hw _ _ (cw_ot (by omega) (cw_nz hk_s (by decide)))) rfl) (ct_Waiters_size_1 (s := s) (by omega) (cw_nz hk_s (by decide))) ⟨(Nat.le_of_ble_eq_true rfl), (Nat.le_of_ble_eq_true rfl), (Nat.le_of_ble_eq_true rfl), (Nat.le_of_ble_eq_true rfl)⟩ ?_
  show sh_cW _ _ (_, _, [.int (K 19 s)]) K L _ _ _ _ _
  refine sh_cp (fun w Z k => sh_istore dc_Hall_signal_24 (by decide) k) ?_
  refine sh_cp (fun w Z k => sh_iload_n dc_Hall_signal_26 rfl rfl k) ?_
  refine sh_cp (fun w Z k => sh_if_ne (tgt := 39) dc_Hall_signal_27 (by decide) (fun z => absurd c3_27 z) (fun _ => k)) ?_
  refine sh_cp (fun w Z k => sh_iload dc_Hall_signal_30 rfl k) ?_
  refine sh_cp (fun w Z k => sh_iconst (v := 1) dc_Hall_signal_32 (by decide) k) ?_
  refine sh_cp (fun w Z k => sh_icmp_le (tgt := 39) dc_Hall_signal_33 (by decide) (fun _ => k) (fun z => absurd c4_33 z)) ?_
  refine sh_cp (fun w Z k => sh_iconst (v := 0) dc_Hall_signal_39 (by decide) k) ?_
  refine sh_cp (fun w Z k => sh_istore dc_Hall_signal_40 (by decide) k) ?_
  refine sh_clv [4, 2, 1, 0] rfl ?_
  exact k9
theorem cb_Hall_signal_p_0_3 {A : Nat → Nat} {K K9 : sh_II} {L L9 : sh_DD} {v9 : Option Value ⊕ Nat} {t : Nat} {s : Nat} {a : Int32} {q : Nat} {u13_11 : Nat} (ht : t < 6) (hs : s < 8) (hq : q < 8) (eq : K 16 s = nI q) (hp : (K 5 t) = -1) (hk_s : cw_cl (K 12 s) = 8) (hk_q : cw_cl (K 12 q) = 4) (hu13_11 : u13_11 < 6) (c1_11 : (K 13 q) = nI u13_11) (c2_11 : u13_11 = t) (c3_27 : a = 0) (c4_33 : ¬ (K 19 s) ≤ 1) (k9 : sh_cW A md_Hall_signal (42, [(0, .ref (A 0)), (5, .ref (A (20 + s))), (6, .int 1), (7, .int 0)], []) K L 6 36 v9 K9 L9) : sh_cW A md_Hall_signal (0, [(0, .ref (A 0)), (1, .int (nI t)), (2, .int (nI s)), (3, .int a)], []) K L 0 0 v9 K9 L9 := by
  refine sh_cp (fun w Z k => sh_aload_n dc_Hall_signal_0 rfl rfl k) ?_
  refine sh_cp (fun w Z k => sh_iload_n dc_Hall_signal_1 rfl rfl k) ?_
  refine sh_ccall (fun w hw => sh_virt (As := [.int (nI t)]) dc_Hall_signal_2 lm_Hall_workerAt ln_Hall_62 wd_448 wd_3 rfl rfl (Nat.le_of_ble_eq_true rfl) (hw _ _ cw_o0) rfl) (ct_Hall_workerAt_1 (t := t) (by omega)) ⟨(Nat.le_of_ble_eq_true rfl), (Nat.le_of_ble_eq_true rfl), (Nat.le_of_ble_eq_true rfl), (Nat.le_of_ble_eq_true rfl)⟩ ?_
  show sh_cW _ _ (_, _, [.ref (A (10 + t))]) K L _ _ _ _ _
  refine sh_cp (fun w Z k => sh_astore dc_Hall_signal_5 (by decide) k) ?_
  refine sh_cp (fun w Z k => sh_aload_n dc_Hall_signal_7 rfl rfl k) ?_
  refine sh_cp (fun w Z k => sh_aload dc_Hall_signal_8 rfl k) ?_
  refine sh_cp (fun w Z k => sh_iload_n dc_Hall_signal_10 rfl rfl k) ?_
  refine sh_ccall (fun w hw => sh_virt (As := [.ref (A (10 + t)), .int (nI s)]) dc_Hall_signal_11 lm_Hall_conditionFor ln_Hall_147 wd_733 wd_24 rfl rfl (Nat.le_of_ble_eq_true rfl) (hw _ _ cw_o0) rfl) (ct_Hall_conditionFor_Condition_2 (t := t) (s := s) (q := q) (u13_29 := u13_11) (by omega) (by omega) (by omega) eq hk_s hk_q hp (by omega) c1_11 c2_11) ⟨(Nat.le_of_ble_eq_true rfl), (Nat.le_of_ble_eq_true rfl), (Nat.le_of_ble_eq_true rfl), (Nat.le_of_ble_eq_true rfl)⟩ ?_
  show sh_cW _ _ (_, _, [.ref (A (20 + s))]) K L _ _ _ _ _
  refine sh_cp (fun w Z k => sh_astore dc_Hall_signal_14 (by decide) k) ?_
  refine sh_cp (fun w Z k => sh_aload dc_Hall_signal_16 rfl k) ?_
  refine sh_cget (20 + s) 1 dc_Hall_signal_18 (cw_oc (by omega) hk_s) rfl (by decide) fl_Hall_171 rfl rfl rfl rfl ?_
  refine sh_ccall (fun w hw => sh_virt (As := []) dc_Hall_signal_21 lm_Waiters_size ln_Hall_134 wd_552 wd_12 rfl rfl (Nat.le_of_ble_eq_true rfl) (hw _ _ (cw_ot (by omega) (cw_nz hk_s (by decide)))) rfl) (ct_Waiters_size_1 (s := s) (by omega) (cw_nz hk_s (by decide))) ⟨(Nat.le_of_ble_eq_true rfl), (Nat.le_of_ble_eq_true rfl), (Nat.le_of_ble_eq_true rfl), (Nat.le_of_ble_eq_true rfl)⟩ ?_
  show sh_cW _ _ (_, _, [.int (K 19 s)]) K L _ _ _ _ _
  refine sh_cp (fun w Z k => sh_istore dc_Hall_signal_24 (by decide) k) ?_
  refine sh_cp (fun w Z k => sh_iload_n dc_Hall_signal_26 rfl rfl k) ?_
  refine sh_cp (fun w Z k => sh_if_ne (tgt := 39) dc_Hall_signal_27 (by decide) (fun z => absurd c3_27 z) (fun _ => k)) ?_
  refine sh_cp (fun w Z k => sh_iload dc_Hall_signal_30 rfl k) ?_
  refine sh_cp (fun w Z k => sh_iconst (v := 1) dc_Hall_signal_32 (by decide) k) ?_
  refine sh_cp (fun w Z k => sh_icmp_le (tgt := 39) dc_Hall_signal_33 (by decide) (fun z => absurd z c4_33) (fun _ => k)) ?_
  refine sh_cp (fun w Z k => sh_iconst (v := 1) dc_Hall_signal_36 (by decide) k) ?_
  refine sh_cp (fun w Z k => sh_istore dc_Hall_signal_37 (by decide) k) ?_
  refine sh_cp (fun w Z k => sh_iconst (v := 0) dc_Hall_signal_39 (by decide) k) ?_
  refine sh_cp (fun w Z k => sh_istore dc_Hall_signal_40 (by decide) k) ?_
  refine sh_clv [4, 2, 1, 0] rfl ?_
  exact k9
theorem cb_Hall_signal_p_0_4 {A : Nat → Nat} {K K9 : sh_II} {L L9 : sh_DD} {v9 : Option Value ⊕ Nat} {t : Nat} {s : Nat} {a : Int32} {q : Nat} {u13_11 : Nat} (ht : t < 6) (hs : s < 8) (hq : q < 8) (eq : K 16 s = nI q) (hp : (K 5 t) = -1) (hk_s : cw_cl (K 12 s) = 8) (hk_q : cw_cl (K 12 q) = 4) (hu13_11 : u13_11 < 6) (c1_11 : (K 13 q) = nI u13_11) (c2_11 : u13_11 = t) (c3_27 : ¬ a = 0) (k9 : sh_cW A md_Hall_signal (42, [(0, .ref (A 0)), (5, .ref (A (20 + s))), (6, .int (K 19 s)), (7, .int 0)], []) K L 6 36 v9 K9 L9) : sh_cW A md_Hall_signal (0, [(0, .ref (A 0)), (1, .int (nI t)), (2, .int (nI s)), (3, .int a)], []) K L 0 0 v9 K9 L9 := by
  refine sh_cp (fun w Z k => sh_aload_n dc_Hall_signal_0 rfl rfl k) ?_
  refine sh_cp (fun w Z k => sh_iload_n dc_Hall_signal_1 rfl rfl k) ?_
  refine sh_ccall (fun w hw => sh_virt (As := [.int (nI t)]) dc_Hall_signal_2 lm_Hall_workerAt ln_Hall_62 wd_448 wd_3 rfl rfl (Nat.le_of_ble_eq_true rfl) (hw _ _ cw_o0) rfl) (ct_Hall_workerAt_1 (t := t) (by omega)) ⟨(Nat.le_of_ble_eq_true rfl), (Nat.le_of_ble_eq_true rfl), (Nat.le_of_ble_eq_true rfl), (Nat.le_of_ble_eq_true rfl)⟩ ?_
  show sh_cW _ _ (_, _, [.ref (A (10 + t))]) K L _ _ _ _ _
  refine sh_cp (fun w Z k => sh_astore dc_Hall_signal_5 (by decide) k) ?_
  refine sh_cp (fun w Z k => sh_aload_n dc_Hall_signal_7 rfl rfl k) ?_
  refine sh_cp (fun w Z k => sh_aload dc_Hall_signal_8 rfl k) ?_
  refine sh_cp (fun w Z k => sh_iload_n dc_Hall_signal_10 rfl rfl k) ?_
  refine sh_ccall (fun w hw => sh_virt (As := [.ref (A (10 + t)), .int (nI s)]) dc_Hall_signal_11 lm_Hall_conditionFor ln_Hall_147 wd_733 wd_24 rfl rfl (Nat.le_of_ble_eq_true rfl) (hw _ _ cw_o0) rfl) (ct_Hall_conditionFor_Condition_2 (t := t) (s := s) (q := q) (u13_29 := u13_11) (by omega) (by omega) (by omega) eq hk_s hk_q hp (by omega) c1_11 c2_11) ⟨(Nat.le_of_ble_eq_true rfl), (Nat.le_of_ble_eq_true rfl), (Nat.le_of_ble_eq_true rfl), (Nat.le_of_ble_eq_true rfl)⟩ ?_
  show sh_cW _ _ (_, _, [.ref (A (20 + s))]) K L _ _ _ _ _
  refine sh_cp (fun w Z k => sh_astore dc_Hall_signal_14 (by decide) k) ?_
  refine sh_cp (fun w Z k => sh_aload dc_Hall_signal_16 rfl k) ?_
  refine sh_cget (20 + s) 1 dc_Hall_signal_18 (cw_oc (by omega) hk_s) rfl (by decide) fl_Hall_171 rfl rfl rfl rfl ?_
  refine sh_ccall (fun w hw => sh_virt (As := []) dc_Hall_signal_21 lm_Waiters_size ln_Hall_134 wd_552 wd_12 rfl rfl (Nat.le_of_ble_eq_true rfl) (hw _ _ (cw_ot (by omega) (cw_nz hk_s (by decide)))) rfl) (ct_Waiters_size_1 (s := s) (by omega) (cw_nz hk_s (by decide))) ⟨(Nat.le_of_ble_eq_true rfl), (Nat.le_of_ble_eq_true rfl), (Nat.le_of_ble_eq_true rfl), (Nat.le_of_ble_eq_true rfl)⟩ ?_
  show sh_cW _ _ (_, _, [.int (K 19 s)]) K L _ _ _ _ _
  refine sh_cp (fun w Z k => sh_istore dc_Hall_signal_24 (by decide) k) ?_
  refine sh_cp (fun w Z k => sh_iload_n dc_Hall_signal_26 rfl rfl k) ?_
  refine sh_cp (fun w Z k => sh_if_ne (tgt := 39) dc_Hall_signal_27 (by decide) (fun _ => k) (fun z => absurd z c3_27)) ?_
  refine sh_cp (fun w Z k => sh_iconst (v := 0) dc_Hall_signal_39 (by decide) k) ?_
  refine sh_cp (fun w Z k => sh_istore dc_Hall_signal_40 (by decide) k) ?_
  refine sh_clv [4, 2, 1, 0] rfl ?_
  exact k9
theorem cb_Hall_signal_p_0_5 {A : Nat → Nat} {K : sh_II} {L : sh_DD} {t : Nat} {s : Nat} {a : Int32} {q : Nat} {u13_11 : Nat} (ht : t < 6) (hs : s < 8) (hq : q < 8) (eq : K 16 s = nI q) (hp : (K 5 t) = -1) (hk_s : cw_cl (K 12 s) = 8) (hk_q : cw_cl (K 12 q) = 4) (hu13_11 : u13_11 < 6) (c1_11 : (K 13 q) = nI u13_11) (c2_11 : ¬ u13_11 = t) : sh_cW A md_Hall_signal (0, [(0, .ref (A 0)), (1, .int (nI t)), (2, .int (nI s)), (3, .int a)], []) K L 0 0 (.inr 3) K L := by
  refine sh_cp (fun w Z k => sh_aload_n dc_Hall_signal_0 rfl rfl k) ?_
  refine sh_cp (fun w Z k => sh_iload_n dc_Hall_signal_1 rfl rfl k) ?_
  refine sh_ccall (fun w hw => sh_virt (As := [.int (nI t)]) dc_Hall_signal_2 lm_Hall_workerAt ln_Hall_62 wd_448 wd_3 rfl rfl (Nat.le_of_ble_eq_true rfl) (hw _ _ cw_o0) rfl) (ct_Hall_workerAt_1 (t := t) (by omega)) ⟨(Nat.le_of_ble_eq_true rfl), (Nat.le_of_ble_eq_true rfl), (Nat.le_of_ble_eq_true rfl), (Nat.le_of_ble_eq_true rfl)⟩ ?_
  show sh_cW _ _ (_, _, [.ref (A (10 + t))]) K L _ _ _ _ _
  refine sh_cp (fun w Z k => sh_astore dc_Hall_signal_5 (by decide) k) ?_
  refine sh_cp (fun w Z k => sh_aload_n dc_Hall_signal_7 rfl rfl k) ?_
  refine sh_cp (fun w Z k => sh_aload dc_Hall_signal_8 rfl k) ?_
  refine sh_cp (fun w Z k => sh_iload_n dc_Hall_signal_10 rfl rfl k) ?_
  exact sh_ccallT (fun w hw => sh_virt (As := [.ref (A (10 + t)), .int (nI s)]) dc_Hall_signal_11 lm_Hall_conditionFor ln_Hall_147 wd_733 wd_24 rfl rfl (Nat.le_of_ble_eq_true rfl) (hw _ _ cw_o0) rfl) (ct_Hall_conditionFor_Condition_3 (t := t) (s := s) (q := q) (u13_29 := u13_11) (by omega) (by omega) (by omega) eq hk_s hk_q hp (by omega) c1_11 c2_11) ⟨(Nat.le_of_ble_eq_true rfl), (Nat.le_of_ble_eq_true rfl), (Nat.le_of_ble_eq_true rfl), (Nat.le_of_ble_eq_true rfl)⟩ rfl
theorem cb_Hall_signal_e_42_1 {A : Nat → Nat} {K : sh_II} {L : sh_DD} {s : Nat} {e : Nat} {i : Nat} (hs : s < 8) (hx : (nI e) ≤ (nI i)) : sh_cW A md_Hall_signal (42, [(0, .ref (A 0)), (5, .ref (A (20 + s))), (6, .int (nI e)), (7, .int (nI i))], []) K L 6 36 (.inl (some (.int (nI e)))) K L := by
  refine sh_cp (fun w Z k => sh_iload dc_Hall_signal_42 rfl k) ?_
  refine sh_cp (fun w Z k => sh_iload dc_Hall_signal_44 rfl k) ?_
  refine sh_cp (fun w Z k => sh_icmp_ge (tgt := 61) dc_Hall_signal_46 (by decide) (fun _ => k) (fun z => absurd hx z)) ?_
  refine sh_cp (fun w Z k => sh_iload dc_Hall_signal_61 rfl k) ?_
  exact sh_ce (fun w => sh_ireturn dc_Hall_signal_63 rfl rfl (by decide) (by decide))
theorem cb_Hall_signal_42_1 {A : Nat → Nat} {K K9 : sh_II} {L L9 : sh_DD} {v9 : Option Value ⊕ Nat} {s : Nat} {e : Nat} {i : Nat} {K7_52 : sh_II} {L7_52 : sh_DD} (hs : s < 8) (hx : ¬ (nI e) ≤ (nI i)) (hk_s : cw_cl (K 12 s) = 8) (v0_52 : sp_SF K L s K7_52 L7_52) (k9 : sh_cW A md_Hall_signal (42, [(0, .ref (A 0)), (5, .ref (A (20 + s))), (6, .int (nI e)), (7, .int (nI (i + 1)))], []) K7_52 L7_52 6 36 v9 K9 L9) : sh_cW A md_Hall_signal (42, [(0, .ref (A 0)), (5, .ref (A (20 + s))), (6, .int (nI e)), (7, .int (nI i))], []) K L 6 36 v9 K9 L9 := by
  refine sh_cp (fun w Z k => sh_iload dc_Hall_signal_42 rfl k) ?_
  refine sh_cp (fun w Z k => sh_iload dc_Hall_signal_44 rfl k) ?_
  refine sh_cp (fun w Z k => sh_icmp_ge (tgt := 61) dc_Hall_signal_46 (by decide) (fun z => absurd z hx) (fun _ => k)) ?_
  refine sh_cp (fun w Z k => sh_aload_n dc_Hall_signal_49 rfl rfl k) ?_
  refine sh_cp (fun w Z k => sh_aload dc_Hall_signal_50 rfl k) ?_
  refine sh_ccall (fun w hw => sh_virt (As := [.ref (A (20 + s))]) dc_Hall_signal_52 lm_Hall_signalFirst ln_Hall_172 wd_761 wd_26 rfl rfl (Nat.le_of_ble_eq_true rfl) (hw _ _ cw_o0) rfl) (cl_signalFirst (s := s) (by omega) v0_52 hk_s) ⟨(Nat.le_of_ble_eq_true rfl), (Nat.le_of_ble_eq_true rfl), (Nat.le_of_ble_eq_true rfl), (Nat.le_of_ble_eq_true rfl)⟩ ?_
  show sh_cW _ _ (_, _, []) K7_52 L7_52 _ _ _ _ _
  refine sh_cp (fun w Z k => sh_iinc (v := nI (i + 1)) dc_Hall_signal_55 rfl (sh_nadd rfl (rfl : (1 : Int32) = nI 1)) (by decide) k) ?_
  refine sh_cp (fun w Z k => sh_goto_ (tgt := 42) dc_Hall_signal_58 (by decide) k) ?_
  refine sh_clv [1, 2, 3, 0] rfl ?_
  exact k9
