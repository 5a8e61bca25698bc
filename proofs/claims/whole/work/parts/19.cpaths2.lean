theorem sp_row_keep {X : sh_II} {s : Nat} {l : List Nat} {r : Nat} (h : r ≠ 18 ∧ r ≠ 19) (c : Nat) : sp_row X s l r c = X r c := (sh_u2_row h.2 c).trans (sp_r18_keep h.1 c)
theorem cw_row_up {X : sh_II} {s r c : Nat} {l : List Nat} {v : Int32} (h : r ≠ 18 ∧ r ≠ 19) (hr : cw_row X s l) : cw_row (sh_u2 X r c v) s l := by
  refine ⟨by rw [sh_u2_row h.2.symm]; exact hr.1, hr.2.1, fun i u hu => ?_⟩
  rw [sh_u2_row h.1.symm]
  exact hr.2.2 i u hu
theorem cw_row_f {X X1 : sh_II} {s : Nat} {l : List Nat} (h1 : ∀ c, X1 18 c = X 18 c) (h2 : ∀ c, X1 19 c = X 19 c) (hr : cw_row X s l) : cw_row X1 s l := by
  refine ⟨by rw [h2]; exact hr.1, hr.2.1, fun i u hu => ?_⟩
  rw [h1]
  exact hr.2.2 i u hu
theorem cw_okr_f {X X1 : sh_II} (h1 : ∀ c, X1 13 c = X 13 c) (hr : cw_okr X) : cw_okr X1 := fun s hs => by rw [h1]; exact hr s hs
theorem cw_okr_up {X : sh_II} {r c : Nat} {v : Int32} (h : r ≠ 13) (hr : cw_okr X) : cw_okr (sh_u2 X r c v) := cw_okr_f (fun c => sh_u2_row h.symm c) hr
theorem sp_p1_keep {x : Int32} {j i : Nat} {X : sh_II} {r : Nat} (h : r ≠ 28) (c : Nat) : sp_p1 x j X i r c = X r c := by
  unfold sp_p1
  split
  · rfl
  · exact sh_u2_row h c
theorem sp_put_keep0 {x : Int32} {j : Nat} {r : Nat} (h : r ≠ 28) (c : Nat) : ∀ (q : List Nat) (X : sh_II), q.foldl (sp_p1 x j) X r c = X r c := by
  intro q
  induction q with
  | nil => intro X; rfl
  | cons a q ih => intro X; rw [List.foldl_cons, ih, sp_p1_keep h]
theorem sp_put_keep {x : Int32} {j : Nat} {X : sh_II} {r : Nat} (h : r ≠ 28) (c : Nat) : sp_put X x j r c = X r c := sp_put_keep0 h c _ _
theorem ct_Shared_canTake_1 {A : Nat → Nat} {K : sh_II} {L : sh_DD} {t : Nat} {s : Nat} {m : Int32} (ht : t < 6) (hs : s < 8) (hk_s : cw_cl (K 12 s) = 7) (c0_1 : (K 13 s) = -1) (c1_26 : m = 0) : sh_cM A md_Shared_canTake [.ref (A (20 + s)), .ref (A (10 + t)), .int m] K L (.inl (some (.int 1))) K L := by
  refine sh_cp (fun w Z k => sh_aload_n dc_Shared_canTake_0 rfl rfl k) ?_
  refine sh_cget (20 + s) 5 dc_Shared_canTake_1 (cw_oh (by omega) hk_s) rfl (by decide) fl_Shared_21 rfl rfl rfl rfl ?_
  refine sh_ctv (cw_rf_0 c0_1) ?_
  refine sh_cp (fun w Z k => sh_ifnullN (tgt := 15) dc_Shared_canTake_4 (by decide) k) ?_
  refine sh_cp (fun w Z k => sh_iconst (v := 1) dc_Shared_canTake_15 (by decide) k) ?_
  refine sh_cp (fun w Z k => sh_goto_ (tgt := 20) dc_Shared_canTake_16 (by decide) k) ?_
  refine sh_cp (fun w Z k => sh_istore_n dc_Shared_canTake_20 rfl (by decide) k) ?_
  refine sh_cp (fun w Z k => sh_iload_n dc_Shared_canTake_21 rfl rfl k) ?_
  refine sh_cp (fun w Z k => sh_if_eq (tgt := 41) dc_Shared_canTake_22 (by decide) (fun z => absurd z (by decide)) (fun _ => k)) ?_
  refine sh_cp (fun w Z k => sh_iload_n dc_Shared_canTake_25 rfl rfl k) ?_
  refine sh_cp (fun w Z k => sh_if_eq (tgt := 37) dc_Shared_canTake_26 (by decide) (fun _ => k) (fun z => absurd c1_26 z)) ?_
  refine sh_cp (fun w Z k => sh_iconst (v := 1) dc_Shared_canTake_37 (by decide) k) ?_
  refine sh_cp (fun w Z k => sh_goto_ (tgt := 42) dc_Shared_canTake_38 (by decide) k) ?_
  exact sh_ce (fun w => sh_ireturn dc_Shared_canTake_42 rfl rfl (by decide) (by decide))
theorem ct_Shared_canTake_2 {A : Nat → Nat} {K : sh_II} {L : sh_DD} {t : Nat} {s : Nat} {m : Int32} (ht : t < 6) (hs : s < 8) (hk_s : cw_cl (K 12 s) = 7) (c0_1 : (K 13 s) = -1) (c1_26 : ¬ m = 0) (c2_34 : (sp_b (sp_or K s t 0 6)) = 0) : sh_cM A md_Shared_canTake [.ref (A (20 + s)), .ref (A (10 + t)), .int m] K L (.inl (some (.int 1))) K L := by
  refine sh_cp (fun w Z k => sh_aload_n dc_Shared_canTake_0 rfl rfl k) ?_
  refine sh_cget (20 + s) 5 dc_Shared_canTake_1 (cw_oh (by omega) hk_s) rfl (by decide) fl_Shared_21 rfl rfl rfl rfl ?_
  refine sh_ctv (cw_rf_0 c0_1) ?_
  refine sh_cp (fun w Z k => sh_ifnullN (tgt := 15) dc_Shared_canTake_4 (by decide) k) ?_
  refine sh_cp (fun w Z k => sh_iconst (v := 1) dc_Shared_canTake_15 (by decide) k) ?_
  refine sh_cp (fun w Z k => sh_goto_ (tgt := 20) dc_Shared_canTake_16 (by decide) k) ?_
  refine sh_cp (fun w Z k => sh_istore_n dc_Shared_canTake_20 rfl (by decide) k) ?_
  refine sh_cp (fun w Z k => sh_iload_n dc_Shared_canTake_21 rfl rfl k) ?_
  refine sh_cp (fun w Z k => sh_if_eq (tgt := 41) dc_Shared_canTake_22 (by decide) (fun z => absurd z (by decide)) (fun _ => k)) ?_
  refine sh_cp (fun w Z k => sh_iload_n dc_Shared_canTake_25 rfl rfl k) ?_
  refine sh_cp (fun w Z k => sh_if_eq (tgt := 37) dc_Shared_canTake_26 (by decide) (fun z => absurd z c1_26) (fun _ => k)) ?_
  refine sh_cp (fun w Z k => sh_aload_n dc_Shared_canTake_29 rfl rfl k) ?_
  refine sh_cp (fun w Z k => sh_aload_n dc_Shared_canTake_30 rfl rfl k) ?_
  refine sh_ccall (fun w hw => sh_virt (As := [.ref (A (10 + t))]) dc_Shared_canTake_31 lm_Shared_othersRead ln_Shared_32 wd_587 wd_15 rfl rfl (Nat.le_of_ble_eq_true rfl) (hw _ _ (cw_oh (by omega) hk_s)) rfl) (cl_othersRead (s := s) (t := t) (by omega) (by omega) hk_s) ⟨(Nat.le_of_ble_eq_true rfl), (Nat.le_of_ble_eq_true rfl), (Nat.le_of_ble_eq_true rfl), (Nat.le_of_ble_eq_true rfl)⟩ ?_
  show sh_cW _ _ (_, _, [.int (sp_b (sp_or K s t 0 6))]) K L _ _ _ _ _
  refine sh_cp (fun w Z k => sh_if_ne (tgt := 41) dc_Shared_canTake_34 (by decide) (fun z => absurd c2_34 z) (fun _ => k)) ?_
  refine sh_cp (fun w Z k => sh_iconst (v := 1) dc_Shared_canTake_37 (by decide) k) ?_
  refine sh_cp (fun w Z k => sh_goto_ (tgt := 42) dc_Shared_canTake_38 (by decide) k) ?_
  exact sh_ce (fun w => sh_ireturn dc_Shared_canTake_42 rfl rfl (by decide) (by decide))
theorem ct_Shared_canTake_3 {A : Nat → Nat} {K : sh_II} {L : sh_DD} {t : Nat} {s : Nat} {m : Int32} (ht : t < 6) (hs : s < 8) (hk_s : cw_cl (K 12 s) = 7) (c0_1 : (K 13 s) = -1) (c1_26 : ¬ m = 0) (c2_34 : ¬ (sp_b (sp_or K s t 0 6)) = 0) : sh_cM A md_Shared_canTake [.ref (A (20 + s)), .ref (A (10 + t)), .int m] K L (.inl (some (.int 0))) K L := by
  refine sh_cp (fun w Z k => sh_aload_n dc_Shared_canTake_0 rfl rfl k) ?_
  refine sh_cget (20 + s) 5 dc_Shared_canTake_1 (cw_oh (by omega) hk_s) rfl (by decide) fl_Shared_21 rfl rfl rfl rfl ?_
  refine sh_ctv (cw_rf_0 c0_1) ?_
  refine sh_cp (fun w Z k => sh_ifnullN (tgt := 15) dc_Shared_canTake_4 (by decide) k) ?_
  refine sh_cp (fun w Z k => sh_iconst (v := 1) dc_Shared_canTake_15 (by decide) k) ?_
  refine sh_cp (fun w Z k => sh_goto_ (tgt := 20) dc_Shared_canTake_16 (by decide) k) ?_
  refine sh_cp (fun w Z k => sh_istore_n dc_Shared_canTake_20 rfl (by decide) k) ?_
  refine sh_cp (fun w Z k => sh_iload_n dc_Shared_canTake_21 rfl rfl k) ?_
  refine sh_cp (fun w Z k => sh_if_eq (tgt := 41) dc_Shared_canTake_22 (by decide) (fun z => absurd z (by decide)) (fun _ => k)) ?_
  refine sh_cp (fun w Z k => sh_iload_n dc_Shared_canTake_25 rfl rfl k) ?_
  refine sh_cp (fun w Z k => sh_if_eq (tgt := 37) dc_Shared_canTake_26 (by decide) (fun z => absurd z c1_26) (fun _ => k)) ?_
  refine sh_cp (fun w Z k => sh_aload_n dc_Shared_canTake_29 rfl rfl k) ?_
  refine sh_cp (fun w Z k => sh_aload_n dc_Shared_canTake_30 rfl rfl k) ?_
  refine sh_ccall (fun w hw => sh_virt (As := [.ref (A (10 + t))]) dc_Shared_canTake_31 lm_Shared_othersRead ln_Shared_32 wd_587 wd_15 rfl rfl (Nat.le_of_ble_eq_true rfl) (hw _ _ (cw_oh (by omega) hk_s)) rfl) (cl_othersRead (s := s) (t := t) (by omega) (by omega) hk_s) ⟨(Nat.le_of_ble_eq_true rfl), (Nat.le_of_ble_eq_true rfl), (Nat.le_of_ble_eq_true rfl), (Nat.le_of_ble_eq_true rfl)⟩ ?_
  show sh_cW _ _ (_, _, [.int (sp_b (sp_or K s t 0 6))]) K L _ _ _ _ _
  refine sh_cp (fun w Z k => sh_if_ne (tgt := 41) dc_Shared_canTake_34 (by decide) (fun _ => k) (fun z => absurd z c2_34)) ?_
  refine sh_cp (fun w Z k => sh_iconst (v := 0) dc_Shared_canTake_41 (by decide) k) ?_
  exact sh_ce (fun w => sh_ireturn dc_Shared_canTake_42 rfl rfl (by decide) (by decide))
theorem ct_Shared_canTake_4 {A : Nat → Nat} {K : sh_II} {L : sh_DD} {t : Nat} {s : Nat} {m : Int32} {u13_1 : Nat} (ht : t < 6) (hs : s < 8) (hk_s : cw_cl (K 12 s) = 7) (hu13_1 : u13_1 < 6) (c1_1 : (K 13 s) = nI u13_1) (c2_12 : u13_1 = t) (c3_26 : m = 0) : sh_cM A md_Shared_canTake [.ref (A (20 + s)), .ref (A (10 + t)), .int m] K L (.inl (some (.int 1))) K L := by
  refine sh_cp (fun w Z k => sh_aload_n dc_Shared_canTake_0 rfl rfl k) ?_
  refine sh_cget (20 + s) 5 dc_Shared_canTake_1 (cw_oh (by omega) hk_s) rfl (by decide) fl_Shared_21 rfl rfl rfl rfl ?_
  refine sh_ctv (cw_rf_n c1_1 (by omega)) ?_
  refine sh_cp (fun w Z k => sh_ifnull dc_Shared_canTake_4 k) ?_
  refine sh_cp (fun w Z k => sh_aload_n dc_Shared_canTake_7 rfl rfl k) ?_
  refine sh_cget (20 + s) 5 dc_Shared_canTake_8 (cw_oh (by omega) hk_s) rfl (by decide) fl_Shared_21 rfl rfl rfl rfl ?_
  refine sh_ctv (cw_rf_n c1_1 (by omega)) ?_
  refine sh_cp (fun w Z k => sh_aload_n dc_Shared_canTake_11 rfl rfl k) ?_
  refine sh_cacmp_ne (tgt := 19) dc_Shared_canTake_12 (by decide) (by rw [cw_ow (by omega)]; rfl) (by rw [cw_ow (by omega)]; rfl) (fun z => absurd (by omega) z) (fun _ => ?_)
  refine sh_cp (fun w Z k => sh_iconst (v := 1) dc_Shared_canTake_15 (by decide) k) ?_
  refine sh_cp (fun w Z k => sh_goto_ (tgt := 20) dc_Shared_canTake_16 (by decide) k) ?_
  refine sh_cp (fun w Z k => sh_istore_n dc_Shared_canTake_20 rfl (by decide) k) ?_
  refine sh_cp (fun w Z k => sh_iload_n dc_Shared_canTake_21 rfl rfl k) ?_
  refine sh_cp (fun w Z k => sh_if_eq (tgt := 41) dc_Shared_canTake_22 (by decide) (fun z => absurd z (by decide)) (fun _ => k)) ?_
  refine sh_cp (fun w Z k => sh_iload_n dc_Shared_canTake_25 rfl rfl k) ?_
  refine sh_cp (fun w Z k => sh_if_eq (tgt := 37) dc_Shared_canTake_26 (by decide) (fun _ => k) (fun z => absurd c3_26 z)) ?_
  refine sh_cp (fun w Z k => sh_iconst (v := 1) dc_Shared_canTake_37 (by decide) k) ?_
  refine sh_cp (fun w Z k => sh_goto_ (tgt := 42) dc_Shared_canTake_38 (by decide) k) ?_
  exact sh_ce (fun w => sh_ireturn dc_Shared_canTake_42 rfl rfl (by decide) (by decide))
theorem ct_Shared_canTake_5 {A : Nat → Nat} {K : sh_II} {L : sh_DD} {t : Nat} {s : Nat} {m : Int32} {u13_1 : Nat} (ht : t < 6) (hs : s < 8) (hk_s : cw_cl (K 12 s) = 7) (hu13_1 : u13_1 < 6) (c1_1 : (K 13 s) = nI u13_1) (c2_12 : u13_1 = t) (c3_26 : ¬ m = 0) (c4_34 : (sp_b (sp_or K s t 0 6)) = 0) : sh_cM A md_Shared_canTake [.ref (A (20 + s)), .ref (A (10 + t)), .int m] K L (.inl (some (.int 1))) K L := by
  refine sh_cp (fun w Z k => sh_aload_n dc_Shared_canTake_0 rfl rfl k) ?_
  refine sh_cget (20 + s) 5 dc_Shared_canTake_1 (cw_oh (by omega) hk_s) rfl (by decide) fl_Shared_21 rfl rfl rfl rfl ?_
  refine sh_ctv (cw_rf_n c1_1 (by omega)) ?_
  refine sh_cp (fun w Z k => sh_ifnull dc_Shared_canTake_4 k) ?_
  refine sh_cp (fun w Z k => sh_aload_n dc_Shared_canTake_7 rfl rfl k) ?_
  refine sh_cget (20 + s) 5 dc_Shared_canTake_8 (cw_oh (by omega) hk_s) rfl (by decide) fl_Shared_21 rfl rfl rfl rfl ?_
  refine sh_ctv (cw_rf_n c1_1 (by omega)) ?_
  refine sh_cp (fun w Z k => sh_aload_n dc_Shared_canTake_11 rfl rfl k) ?_
  refine sh_cacmp_ne (tgt := 19) dc_Shared_canTake_12 (by decide) (by rw [cw_ow (by omega)]; rfl) (by rw [cw_ow (by omega)]; rfl) (fun z => absurd (by omega) z) (fun _ => ?_)
  refine sh_cp (fun w Z k => sh_iconst (v := 1) dc_Shared_canTake_15 (by decide) k) ?_
  refine sh_cp (fun w Z k => sh_goto_ (tgt := 20) dc_Shared_canTake_16 (by decide) k) ?_
  refine sh_cp (fun w Z k => sh_istore_n dc_Shared_canTake_20 rfl (by decide) k) ?_
  refine sh_cp (fun w Z k => sh_iload_n dc_Shared_canTake_21 rfl rfl k) ?_
  refine sh_cp (fun w Z k => sh_if_eq (tgt := 41) dc_Shared_canTake_22 (by decide) (fun z => absurd z (by decide)) (fun _ => k)) ?_
  refine sh_cp (fun w Z k => sh_iload_n dc_Shared_canTake_25 rfl rfl k) ?_
  refine sh_cp (fun w Z k => sh_if_eq (tgt := 37) dc_Shared_canTake_26 (by decide) (fun z => absurd z c3_26) (fun _ => k)) ?_
  refine sh_cp (fun w Z k => sh_aload_n dc_Shared_canTake_29 rfl rfl k) ?_
  refine sh_cp (fun w Z k => sh_aload_n dc_Shared_canTake_30 rfl rfl k) ?_
  refine sh_ccall (fun w hw => sh_virt (As := [.ref (A (10 + t))]) dc_Shared_canTake_31 lm_Shared_othersRead ln_Shared_32 wd_587 wd_15 rfl rfl (Nat.le_of_ble_eq_true rfl) (hw _ _ (cw_oh (by omega) hk_s)) rfl) (cl_othersRead (s := s) (t := t) (by omega) (by omega) hk_s) ⟨(Nat.le_of_ble_eq_true rfl), (Nat.le_of_ble_eq_true rfl), (Nat.le_of_ble_eq_true rfl), (Nat.le_of_ble_eq_true rfl)⟩ ?_
  show sh_cW _ _ (_, _, [.int (sp_b (sp_or K s t 0 6))]) K L _ _ _ _ _
  refine sh_cp (fun w Z k => sh_if_ne (tgt := 41) dc_Shared_canTake_34 (by decide) (fun z => absurd c4_34 z) (fun _ => k)) ?_
  refine sh_cp (fun w Z k => sh_iconst (v := 1) dc_Shared_canTake_37 (by decide) k) ?_
  refine sh_cp (fun w Z k => sh_goto_ (tgt := 42) dc_Shared_canTake_38 (by decide) k) ?_
  exact sh_ce (fun w => sh_ireturn dc_Shared_canTake_42 rfl rfl (by decide) (by decide))
theorem ct_Shared_canTake_6 {A : Nat → Nat} {K : sh_II} {L : sh_DD} {t : Nat} {s : Nat} {m : Int32} {u13_1 : Nat} (ht : t < 6) (hs : s < 8) (hk_s : cw_cl (K 12 s) = 7) (hu13_1 : u13_1 < 6) (c1_1 : (K 13 s) = nI u13_1) (c2_12 : u13_1 = t) (c3_26 : ¬ m = 0) (c4_34 : ¬ (sp_b (sp_or K s t 0 6)) = 0) : sh_cM A md_Shared_canTake [.ref (A (20 + s)), .ref (A (10 + t)), .int m] K L (.inl (some (.int 0))) K L := by
  refine sh_cp (fun w Z k => sh_aload_n dc_Shared_canTake_0 rfl rfl k) ?_
  refine sh_cget (20 + s) 5 dc_Shared_canTake_1 (cw_oh (by omega) hk_s) rfl (by decide) fl_Shared_21 rfl rfl rfl rfl ?_
  refine sh_ctv (cw_rf_n c1_1 (by omega)) ?_
  refine sh_cp (fun w Z k => sh_ifnull dc_Shared_canTake_4 k) ?_
  refine sh_cp (fun w Z k => sh_aload_n dc_Shared_canTake_7 rfl rfl k) ?_
  refine sh_cget (20 + s) 5 dc_Shared_canTake_8 (cw_oh (by omega) hk_s) rfl (by decide) fl_Shared_21 rfl rfl rfl rfl ?_
  refine sh_ctv (cw_rf_n c1_1 (by omega)) ?_
  refine sh_cp (fun w Z k => sh_aload_n dc_Shared_canTake_11 rfl rfl k) ?_
  refine sh_cacmp_ne (tgt := 19) dc_Shared_canTake_12 (by decide) (by rw [cw_ow (by omega)]; rfl) (by rw [cw_ow (by omega)]; rfl) (fun z => absurd (by omega) z) (fun _ => ?_)
  refine sh_cp (fun w Z k => sh_iconst (v := 1) dc_Shared_canTake_15 (by decide) k) ?_
  refine sh_cp (fun w Z k => sh_goto_ (tgt := 20) dc_Shared_canTake_16 (by decide) k) ?_
  refine sh_cp (fun w Z k => sh_istore_n dc_Shared_canTake_20 rfl (by decide) k) ?_
  refine sh_cp (fun w Z k => sh_iload_n dc_Shared_canTake_21 rfl rfl k) ?_
  refine sh_cp (fun w Z k => sh_if_eq (tgt := 41) dc_Shared_canTake_22 (by decide) (fun z => absurd z (by decide)) (fun _ => k)) ?_
  refine sh_cp (fun w Z k => sh_iload_n dc_Shared_canTake_25 rfl rfl k) ?_
  refine sh_cp (fun w Z k => sh_if_eq (tgt := 37) dc_Shared_canTake_26 (by decide) (fun z => absurd z c3_26) (fun _ => k)) ?_
  refine sh_cp (fun w Z k => sh_aload_n dc_Shared_canTake_29 rfl rfl k) ?_
  refine sh_cp (fun w Z k => sh_aload_n dc_Shared_canTake_30 rfl rfl k) ?_
  refine sh_ccall (fun w hw => sh_virt (As := [.ref (A (10 + t))]) dc_Shared_canTake_31 lm_Shared_othersRead ln_Shared_32 wd_587 wd_15 rfl rfl (Nat.le_of_ble_eq_true rfl) (hw _ _ (cw_oh (by omega) hk_s)) rfl) (cl_othersRead (s := s) (t := t) (by omega) (by omega) hk_s) ⟨(Nat.le_of_ble_eq_true rfl), (Nat.le_of_ble_eq_true rfl), (Nat.le_of_ble_eq_true rfl), (Nat.le_of_ble_eq_true rfl)⟩ ?_
  show sh_cW _ _ (_, _, [.int (sp_b (sp_or K s t 0 6))]) K L _ _ _ _ _
  refine sh_cp (fun w Z k => sh_if_ne (tgt := 41) dc_Shared_canTake_34 (by decide) (fun _ => k) (fun z => absurd z c4_34)) ?_
  refine sh_cp (fun w Z k => sh_iconst (v := 0) dc_Shared_canTake_41 (by decide) k) ?_
  exact sh_ce (fun w => sh_ireturn dc_Shared_canTake_42 rfl rfl (by decide) (by decide))
theorem ct_Shared_canTake_7 {A : Nat → Nat} {K : sh_II} {L : sh_DD} {t : Nat} {s : Nat} {m : Int32} {u13_1 : Nat} (ht : t < 6) (hs : s < 8) (hk_s : cw_cl (K 12 s) = 7) (hu13_1 : u13_1 < 6) (c1_1 : (K 13 s) = nI u13_1) (c2_12 : ¬ u13_1 = t) : sh_cM A md_Shared_canTake [.ref (A (20 + s)), .ref (A (10 + t)), .int m] K L (.inl (some (.int 0))) K L := by
  refine sh_cp (fun w Z k => sh_aload_n dc_Shared_canTake_0 rfl rfl k) ?_
  refine sh_cget (20 + s) 5 dc_Shared_canTake_1 (cw_oh (by omega) hk_s) rfl (by decide) fl_Shared_21 rfl rfl rfl rfl ?_
  refine sh_ctv (cw_rf_n c1_1 (by omega)) ?_
  refine sh_cp (fun w Z k => sh_ifnull dc_Shared_canTake_4 k) ?_
  refine sh_cp (fun w Z k => sh_aload_n dc_Shared_canTake_7 rfl rfl k) ?_
  refine sh_cget (20 + s) 5 dc_Shared_canTake_8 (cw_oh (by omega) hk_s) rfl (by decide) fl_Shared_21 rfl rfl rfl rfl ?_
  refine sh_ctv (cw_rf_n c1_1 (by omega)) ?_
  refine sh_cp (fun w Z k => sh_aload_n dc_Shared_canTake_11 rfl rfl k) ?_
  refine sh_cacmp_ne (tgt := 19) dc_Shared_canTake_12 (by decide) (by rw [cw_ow (by omega)]; rfl) (by rw [cw_ow (by omega)]; rfl) (fun _ => ?_) (fun z => absurd z (by omega))
  refine sh_cp (fun w Z k => sh_iconst (v := 0) dc_Shared_canTake_19 (by decide) k) ?_
  refine sh_cp (fun w Z k => sh_istore_n dc_Shared_canTake_20 rfl (by decide) k) ?_
  refine sh_cp (fun w Z k => sh_iload_n dc_Shared_canTake_21 rfl rfl k) ?_
  refine sh_cp (fun w Z k => sh_if_eq (tgt := 41) dc_Shared_canTake_22 (by decide) (fun _ => k) (fun z => absurd (by decide) z)) ?_
  refine sh_cp (fun w Z k => sh_iconst (v := 0) dc_Shared_canTake_41 (by decide) k) ?_
  exact sh_ce (fun w => sh_ireturn dc_Shared_canTake_42 rfl rfl (by decide) (by decide))
theorem ct_Shared_mustQueue_1 {A : Nat → Nat} {K : sh_II} {L : sh_DD} {t : Nat} {s : Nat} {m : Int32} {l : List Nat} (ht : t < 6) (hs : s < 8) (hr : cw_row K s l) (hk_s : cw_cl (K 12 s) = 7) (c0_9 : 0 < (K 17 (6 * s + t))) : sh_cM A md_Shared_mustQueue [.ref (A (20 + s)), .ref (A (10 + t)), .int m] K L (.inl (some (.int 0))) K L := by
  refine sh_cp (fun w Z k => sh_aload_n dc_Shared_mustQueue_0 rfl rfl k) ?_
  refine sh_cget (20 + s) 4 dc_Shared_mustQueue_1 (cw_oh (by omega) hk_s) rfl (by decide) fl_Shared_9 rfl rfl rfl rfl ?_
  refine sh_cp (fun w Z k => sh_aload_n dc_Shared_mustQueue_4 rfl rfl k) ?_
  refine sh_cget (10 + t) 0 dc_Shared_mustQueue_5 (cw_ow (by omega)) rfl (by decide) fl_Shared_15 rfl rfl rfl rfl ?_
  refine sh_ciald (50 + s) (k := t) dc_Shared_mustQueue_8 (cw_od (by omega) hk_s) rfl (by omega) (by decide) ?_
  refine sh_cp (fun w Z k => sh_if_gt (tgt := 20) dc_Shared_mustQueue_9 (by decide) (fun _ => k) (fun z => absurd c0_9 z)) ?_
  refine sh_cp (fun w Z k => sh_iconst (v := 0) dc_Shared_mustQueue_20 (by decide) k) ?_
  exact sh_ce (fun w => sh_ireturn dc_Shared_mustQueue_21 rfl rfl (by decide) (by decide))
theorem ct_Shared_mustQueue_2 {A : Nat → Nat} {K : sh_II} {L : sh_DD} {t : Nat} {s : Nat} {m : Int32} {l : List Nat} (ht : t < 6) (hs : s < 8) (hr : cw_row K s l) (hk_s : cw_cl (K 12 s) = 7) (c0_9 : ¬ 0 < (K 17 (6 * s + t))) (c1_13 : (K 13 s) = -1) (c2_23 : m = 0) (c3_30 : (sp_fw K l) = none) : sh_cM A md_Shared_mustQueue [.ref (A (20 + s)), .ref (A (10 + t)), .int m] K L (.inl (some (.int 0))) K L := by
  refine sh_cp (fun w Z k => sh_aload_n dc_Shared_mustQueue_0 rfl rfl k) ?_
  refine sh_cget (20 + s) 4 dc_Shared_mustQueue_1 (cw_oh (by omega) hk_s) rfl (by decide) fl_Shared_9 rfl rfl rfl rfl ?_
  refine sh_cp (fun w Z k => sh_aload_n dc_Shared_mustQueue_4 rfl rfl k) ?_
  refine sh_cget (10 + t) 0 dc_Shared_mustQueue_5 (cw_ow (by omega)) rfl (by decide) fl_Shared_15 rfl rfl rfl rfl ?_
  refine sh_ciald (50 + s) (k := t) dc_Shared_mustQueue_8 (cw_od (by omega) hk_s) rfl (by omega) (by decide) ?_
  refine sh_cp (fun w Z k => sh_if_gt (tgt := 20) dc_Shared_mustQueue_9 (by decide) (fun z => absurd z c0_9) (fun _ => k)) ?_
  refine sh_cp (fun w Z k => sh_aload_n dc_Shared_mustQueue_12 rfl rfl k) ?_
  refine sh_cget (20 + s) 5 dc_Shared_mustQueue_13 (cw_oh (by omega) hk_s) rfl (by decide) fl_Shared_21 rfl rfl rfl rfl ?_
  refine sh_ctv (cw_rf_0 c1_13) ?_
  refine sh_cp (fun w Z k => sh_aload_n dc_Shared_mustQueue_16 rfl rfl k) ?_
  refine sh_cp (fun w Z k => sh_acmp_ne (rx := none) (ry := (some (A (10 + t)))) (tgt := 22) dc_Shared_mustQueue_17 (by decide) (fun _ => k) (fun z => absurd z (fun z => by cases z))) ?_
  refine sh_cp (fun w Z k => sh_iload_n dc_Shared_mustQueue_22 rfl rfl k) ?_
  refine sh_cp (fun w Z k => sh_if_ne (tgt := 44) dc_Shared_mustQueue_23 (by decide) (fun z => absurd c2_23 z) (fun _ => k)) ?_
  refine sh_cp (fun w Z k => sh_aload_n dc_Shared_mustQueue_26 rfl rfl k) ?_
  refine sh_cget (20 + s) 1 dc_Shared_mustQueue_27 (cw_oh (by omega) hk_s) rfl (by decide) fl_Shared_36 rfl rfl rfl rfl ?_
  refine sh_ccall (fun w hw => sh_virt (As := []) dc_Shared_mustQueue_30 lm_Waiters_firstToWrite ln_Shared_40 wd_567 wd_14 rfl rfl (Nat.le_of_ble_eq_true rfl) (hw _ _ (cw_ot (by omega) (cw_nz hk_s (by decide)))) rfl) (cl_firstToWrite (s := s) (l := l) (by omega) (cw_nz hk_s (by decide)) hr) ⟨(Nat.le_of_ble_eq_true rfl), (Nat.le_of_ble_eq_true rfl), (Nat.le_of_ble_eq_true rfl), (Nat.le_of_ble_eq_true rfl)⟩ ?_
  show sh_cW _ _ (_, _, [va_rf ((sp_fw K l).map fun u => A (10 + u))]) K L _ _ _ _ _
  refine sh_ctv (show _ = Value.null by rw [c3_30]; rfl) ?_
  refine sh_cp (fun w Z k => sh_ifnullN (tgt := 40) dc_Shared_mustQueue_33 (by decide) k) ?_
  refine sh_cp (fun w Z k => sh_iconst (v := 0) dc_Shared_mustQueue_40 (by decide) k) ?_
  refine sh_cp (fun w Z k => sh_goto_ (tgt := 59) dc_Shared_mustQueue_41 (by decide) k) ?_
  exact sh_ce (fun w => sh_ireturn dc_Shared_mustQueue_59 rfl rfl (by decide) (by decide))
theorem ct_Shared_mustQueue_3 {A : Nat → Nat} {K : sh_II} {L : sh_DD} {t : Nat} {s : Nat} {m : Int32} {l : List Nat} {q30 : Nat} (ht : t < 6) (hs : s < 8) (hr : cw_row K s l) (hk_s : cw_cl (K 12 s) = 7) (c0_9 : ¬ 0 < (K 17 (6 * s + t))) (c1_13 : (K 13 s) = -1) (c2_23 : m = 0) (hq30 : q30 < 6) (c4_30 : (sp_fw K l) = some q30) : sh_cM A md_Shared_mustQueue [.ref (A (20 + s)), .ref (A (10 + t)), .int m] K L (.inl (some (.int 1))) K L := by
  refine sh_cp (fun w Z k => sh_aload_n dc_Shared_mustQueue_0 rfl rfl k) ?_
  refine sh_cget (20 + s) 4 dc_Shared_mustQueue_1 (cw_oh (by omega) hk_s) rfl (by decide) fl_Shared_9 rfl rfl rfl rfl ?_
  refine sh_cp (fun w Z k => sh_aload_n dc_Shared_mustQueue_4 rfl rfl k) ?_
  refine sh_cget (10 + t) 0 dc_Shared_mustQueue_5 (cw_ow (by omega)) rfl (by decide) fl_Shared_15 rfl rfl rfl rfl ?_
  refine sh_ciald (50 + s) (k := t) dc_Shared_mustQueue_8 (cw_od (by omega) hk_s) rfl (by omega) (by decide) ?_
  refine sh_cp (fun w Z k => sh_if_gt (tgt := 20) dc_Shared_mustQueue_9 (by decide) (fun z => absurd z c0_9) (fun _ => k)) ?_
  refine sh_cp (fun w Z k => sh_aload_n dc_Shared_mustQueue_12 rfl rfl k) ?_
  refine sh_cget (20 + s) 5 dc_Shared_mustQueue_13 (cw_oh (by omega) hk_s) rfl (by decide) fl_Shared_21 rfl rfl rfl rfl ?_
  refine sh_ctv (cw_rf_0 c1_13) ?_
  refine sh_cp (fun w Z k => sh_aload_n dc_Shared_mustQueue_16 rfl rfl k) ?_
  refine sh_cp (fun w Z k => sh_acmp_ne (rx := none) (ry := (some (A (10 + t)))) (tgt := 22) dc_Shared_mustQueue_17 (by decide) (fun _ => k) (fun z => absurd z (fun z => by cases z))) ?_
  refine sh_cp (fun w Z k => sh_iload_n dc_Shared_mustQueue_22 rfl rfl k) ?_
  refine sh_cp (fun w Z k => sh_if_ne (tgt := 44) dc_Shared_mustQueue_23 (by decide) (fun z => absurd c2_23 z) (fun _ => k)) ?_
  refine sh_cp (fun w Z k => sh_aload_n dc_Shared_mustQueue_26 rfl rfl k) ?_
  refine sh_cget (20 + s) 1 dc_Shared_mustQueue_27 (cw_oh (by omega) hk_s) rfl (by decide) fl_Shared_36 rfl rfl rfl rfl ?_
  refine sh_ccall (fun w hw => sh_virt (As := []) dc_Shared_mustQueue_30 lm_Waiters_firstToWrite ln_Shared_40 wd_567 wd_14 rfl rfl (Nat.le_of_ble_eq_true rfl) (hw _ _ (cw_ot (by omega) (cw_nz hk_s (by decide)))) rfl) (cl_firstToWrite (s := s) (l := l) (by omega) (cw_nz hk_s (by decide)) hr) ⟨(Nat.le_of_ble_eq_true rfl), (Nat.le_of_ble_eq_true rfl), (Nat.le_of_ble_eq_true rfl), (Nat.le_of_ble_eq_true rfl)⟩ ?_
  show sh_cW _ _ (_, _, [va_rf ((sp_fw K l).map fun u => A (10 + u))]) K L _ _ _ _ _
  refine sh_ctv (show _ = Value.ref (A (10 + q30)) by rw [c4_30]; rfl) ?_
  refine sh_cp (fun w Z k => sh_ifnull dc_Shared_mustQueue_33 k) ?_
  refine sh_cp (fun w Z k => sh_iconst (v := 1) dc_Shared_mustQueue_36 (by decide) k) ?_
  refine sh_cp (fun w Z k => sh_goto_ (tgt := 59) dc_Shared_mustQueue_37 (by decide) k) ?_
  exact sh_ce (fun w => sh_ireturn dc_Shared_mustQueue_59 rfl rfl (by decide) (by decide))
theorem ct_Shared_mustQueue_4 {A : Nat → Nat} {K : sh_II} {L : sh_DD} {t : Nat} {s : Nat} {m : Int32} {l : List Nat} (ht : t < 6) (hs : s < 8) (hr : cw_row K s l) (hk_s : cw_cl (K 12 s) = 7) (c0_9 : ¬ 0 < (K 17 (6 * s + t))) (c1_13 : (K 13 s) = -1) (c2_23 : ¬ m = 0) (c3_51 : (K 19 s) ≤ 0) : sh_cM A md_Shared_mustQueue [.ref (A (20 + s)), .ref (A (10 + t)), .int m] K L (.inl (some (.int 0))) K L := by
  refine sh_cp (fun w Z k => sh_aload_n dc_Shared_mustQueue_0 rfl rfl k) ?_
  refine sh_cget (20 + s) 4 dc_Shared_mustQueue_1 (cw_oh (by omega) hk_s) rfl (by decide) fl_Shared_9 rfl rfl rfl rfl ?_
  refine sh_cp (fun w Z k => sh_aload_n dc_Shared_mustQueue_4 rfl rfl k) ?_
  refine sh_cget (10 + t) 0 dc_Shared_mustQueue_5 (cw_ow (by omega)) rfl (by decide) fl_Shared_15 rfl rfl rfl rfl ?_
  refine sh_ciald (50 + s) (k := t) dc_Shared_mustQueue_8 (cw_od (by omega) hk_s) rfl (by omega) (by decide) ?_
  refine sh_cp (fun w Z k => sh_if_gt (tgt := 20) dc_Shared_mustQueue_9 (by decide) (fun z => absurd z c0_9) (fun _ => k)) ?_
  refine sh_cp (fun w Z k => sh_aload_n dc_Shared_mustQueue_12 rfl rfl k) ?_
  refine sh_cget (20 + s) 5 dc_Shared_mustQueue_13 (cw_oh (by omega) hk_s) rfl (by decide) fl_Shared_21 rfl rfl rfl rfl ?_
  refine sh_ctv (cw_rf_0 c1_13) ?_
  refine sh_cp (fun w Z k => sh_aload_n dc_Shared_mustQueue_16 rfl rfl k) ?_
  refine sh_cp (fun w Z k => sh_acmp_ne (rx := none) (ry := (some (A (10 + t)))) (tgt := 22) dc_Shared_mustQueue_17 (by decide) (fun _ => k) (fun z => absurd z (fun z => by cases z))) ?_
  refine sh_cp (fun w Z k => sh_iload_n dc_Shared_mustQueue_22 rfl rfl k) ?_
  refine sh_cp (fun w Z k => sh_if_ne (tgt := 44) dc_Shared_mustQueue_23 (by decide) (fun _ => k) (fun z => absurd z c2_23)) ?_
  refine sh_cp (fun w Z k => sh_aload_n dc_Shared_mustQueue_44 rfl rfl k) ?_
  refine sh_cget (20 + s) 1 dc_Shared_mustQueue_45 (cw_oh (by omega) hk_s) rfl (by decide) fl_Shared_36 rfl rfl rfl rfl ?_
  refine sh_ccall (fun w hw => sh_virt (As := []) dc_Shared_mustQueue_48 lm_Waiters_size ln_Shared_46 wd_552 wd_12 rfl rfl (Nat.le_of_ble_eq_true rfl) (hw _ _ (cw_ot (by omega) (cw_nz hk_s (by decide)))) rfl) (ct_Waiters_size_1 (s := s) (by omega) (cw_nz hk_s (by decide))) ⟨(Nat.le_of_ble_eq_true rfl), (Nat.le_of_ble_eq_true rfl), (Nat.le_of_ble_eq_true rfl), (Nat.le_of_ble_eq_true rfl)⟩ ?_
  show sh_cW _ _ (_, _, [.int (K 19 s)]) K L _ _ _ _ _
  refine sh_cp (fun w Z k => sh_if_le (tgt := 58) dc_Shared_mustQueue_51 (by decide) (fun _ => k) (fun z => absurd c3_51 z)) ?_
  refine sh_cp (fun w Z k => sh_iconst (v := 0) dc_Shared_mustQueue_58 (by decide) k) ?_
  exact sh_ce (fun w => sh_ireturn dc_Shared_mustQueue_59 rfl rfl (by decide) (by decide))
theorem ct_Shared_mustQueue_5 {A : Nat → Nat} {K : sh_II} {L : sh_DD} {t : Nat} {s : Nat} {m : Int32} {l : List Nat} (ht : t < 6) (hs : s < 8) (hr : cw_row K s l) (hk_s : cw_cl (K 12 s) = 7) (c0_9 : ¬ 0 < (K 17 (6 * s + t))) (c1_13 : (K 13 s) = -1) (c2_23 : ¬ m = 0) (c3_51 : ¬ (K 19 s) ≤ 0) : sh_cM A md_Shared_mustQueue [.ref (A (20 + s)), .ref (A (10 + t)), .int m] K L (.inl (some (.int 1))) K L := by
  refine sh_cp (fun w Z k => sh_aload_n dc_Shared_mustQueue_0 rfl rfl k) ?_
  refine sh_cget (20 + s) 4 dc_Shared_mustQueue_1 (cw_oh (by omega) hk_s) rfl (by decide) fl_Shared_9 rfl rfl rfl rfl ?_
  refine sh_cp (fun w Z k => sh_aload_n dc_Shared_mustQueue_4 rfl rfl k) ?_
  refine sh_cget (10 + t) 0 dc_Shared_mustQueue_5 (cw_ow (by omega)) rfl (by decide) fl_Shared_15 rfl rfl rfl rfl ?_
  refine sh_ciald (50 + s) (k := t) dc_Shared_mustQueue_8 (cw_od (by omega) hk_s) rfl (by omega) (by decide) ?_
  refine sh_cp (fun w Z k => sh_if_gt (tgt := 20) dc_Shared_mustQueue_9 (by decide) (fun z => absurd z c0_9) (fun _ => k)) ?_
  refine sh_cp (fun w Z k => sh_aload_n dc_Shared_mustQueue_12 rfl rfl k) ?_
  refine sh_cget (20 + s) 5 dc_Shared_mustQueue_13 (cw_oh (by omega) hk_s) rfl (by decide) fl_Shared_21 rfl rfl rfl rfl ?_
  refine sh_ctv (cw_rf_0 c1_13) ?_
  refine sh_cp (fun w Z k => sh_aload_n dc_Shared_mustQueue_16 rfl rfl k) ?_
  refine sh_cp (fun w Z k => sh_acmp_ne (rx := none) (ry := (some (A (10 + t)))) (tgt := 22) dc_Shared_mustQueue_17 (by decide) (fun _ => k) (fun z => absurd z (fun z => by cases z))) ?_
  refine sh_cp (fun w Z k => sh_iload_n dc_Shared_mustQueue_22 rfl rfl k) ?_
  refine sh_cp (fun w Z k => sh_if_ne (tgt := 44) dc_Shared_mustQueue_23 (by decide) (fun _ => k) (fun z => absurd z c2_23)) ?_
  refine sh_cp (fun w Z k => sh_aload_n dc_Shared_mustQueue_44 rfl rfl k) ?_
  refine sh_cget (20 + s) 1 dc_Shared_mustQueue_45 (cw_oh (by omega) hk_s) rfl (by decide) fl_Shared_36 rfl rfl rfl rfl ?_
  refine sh_ccall (fun w hw => sh_virt (As := []) dc_Shared_mustQueue_48 lm_Waiters_size ln_Shared_46 wd_552 wd_12 rfl rfl (Nat.le_of_ble_eq_true rfl) (hw _ _ (cw_ot (by omega) (cw_nz hk_s (by decide)))) rfl) (ct_Waiters_size_1 (s := s) (by omega) (cw_nz hk_s (by decide))) ⟨(Nat.le_of_ble_eq_true rfl), (Nat.le_of_ble_eq_true rfl), (Nat.le_of_ble_eq_true rfl), (Nat.le_of_ble_eq_true rfl)⟩ ?_
  show sh_cW _ _ (_, _, [.int (K 19 s)]) K L _ _ _ _ _
  refine sh_cp (fun w Z k => sh_if_le (tgt := 58) dc_Shared_mustQueue_51 (by decide) (fun z => absurd z c3_51) (fun _ => k)) ?_
  refine sh_cp (fun w Z k => sh_iconst (v := 1) dc_Shared_mustQueue_54 (by decide) k) ?_
  refine sh_cp (fun w Z k => sh_goto_ (tgt := 59) dc_Shared_mustQueue_55 (by decide) k) ?_
  exact sh_ce (fun w => sh_ireturn dc_Shared_mustQueue_59 rfl rfl (by decide) (by decide))
theorem ct_Shared_mustQueue_6 {A : Nat → Nat} {K : sh_II} {L : sh_DD} {t : Nat} {s : Nat} {m : Int32} {l : List Nat} {u13_13 : Nat} (ht : t < 6) (hs : s < 8) (hr : cw_row K s l) (hk_s : cw_cl (K 12 s) = 7) (c0_9 : ¬ 0 < (K 17 (6 * s + t))) (hu13_13 : u13_13 < 6) (c2_13 : (K 13 s) = nI u13_13) (c3_17 : u13_13 = t) : sh_cM A md_Shared_mustQueue [.ref (A (20 + s)), .ref (A (10 + t)), .int m] K L (.inl (some (.int 0))) K L := by
  refine sh_cp (fun w Z k => sh_aload_n dc_Shared_mustQueue_0 rfl rfl k) ?_
  refine sh_cget (20 + s) 4 dc_Shared_mustQueue_1 (cw_oh (by omega) hk_s) rfl (by decide) fl_Shared_9 rfl rfl rfl rfl ?_
  refine sh_cp (fun w Z k => sh_aload_n dc_Shared_mustQueue_4 rfl rfl k) ?_
  refine sh_cget (10 + t) 0 dc_Shared_mustQueue_5 (cw_ow (by omega)) rfl (by decide) fl_Shared_15 rfl rfl rfl rfl ?_
  refine sh_ciald (50 + s) (k := t) dc_Shared_mustQueue_8 (cw_od (by omega) hk_s) rfl (by omega) (by decide) ?_
  refine sh_cp (fun w Z k => sh_if_gt (tgt := 20) dc_Shared_mustQueue_9 (by decide) (fun z => absurd z c0_9) (fun _ => k)) ?_
  refine sh_cp (fun w Z k => sh_aload_n dc_Shared_mustQueue_12 rfl rfl k) ?_
  refine sh_cget (20 + s) 5 dc_Shared_mustQueue_13 (cw_oh (by omega) hk_s) rfl (by decide) fl_Shared_21 rfl rfl rfl rfl ?_
  refine sh_ctv (cw_rf_n c2_13 (by omega)) ?_
  refine sh_cp (fun w Z k => sh_aload_n dc_Shared_mustQueue_16 rfl rfl k) ?_
  refine sh_cacmp_ne (tgt := 22) dc_Shared_mustQueue_17 (by decide) (by rw [cw_ow (by omega)]; rfl) (by rw [cw_ow (by omega)]; rfl) (fun z => absurd (by omega) z) (fun _ => ?_)
  refine sh_cp (fun w Z k => sh_iconst (v := 0) dc_Shared_mustQueue_20 (by decide) k) ?_
  exact sh_ce (fun w => sh_ireturn dc_Shared_mustQueue_21 rfl rfl (by decide) (by decide))
theorem ct_Shared_mustQueue_7 {A : Nat → Nat} {K : sh_II} {L : sh_DD} {t : Nat} {s : Nat} {m : Int32} {l : List Nat} {u13_13 : Nat} (ht : t < 6) (hs : s < 8) (hr : cw_row K s l) (hk_s : cw_cl (K 12 s) = 7) (c0_9 : ¬ 0 < (K 17 (6 * s + t))) (hu13_13 : u13_13 < 6) (c2_13 : (K 13 s) = nI u13_13) (c3_17 : ¬ u13_13 = t) (c4_23 : m = 0) (c5_30 : (sp_fw K l) = none) : sh_cM A md_Shared_mustQueue [.ref (A (20 + s)), .ref (A (10 + t)), .int m] K L (.inl (some (.int 0))) K L := by
  refine sh_cp (fun w Z k => sh_aload_n dc_Shared_mustQueue_0 rfl rfl k) ?_
  refine sh_cget (20 + s) 4 dc_Shared_mustQueue_1 (cw_oh (by omega) hk_s) rfl (by decide) fl_Shared_9 rfl rfl rfl rfl ?_
  refine sh_cp (fun w Z k => sh_aload_n dc_Shared_mustQueue_4 rfl rfl k) ?_
  refine sh_cget (10 + t) 0 dc_Shared_mustQueue_5 (cw_ow (by omega)) rfl (by decide) fl_Shared_15 rfl rfl rfl rfl ?_
  refine sh_ciald (50 + s) (k := t) dc_Shared_mustQueue_8 (cw_od (by omega) hk_s) rfl (by omega) (by decide) ?_
  refine sh_cp (fun w Z k => sh_if_gt (tgt := 20) dc_Shared_mustQueue_9 (by decide) (fun z => absurd z c0_9) (fun _ => k)) ?_
  refine sh_cp (fun w Z k => sh_aload_n dc_Shared_mustQueue_12 rfl rfl k) ?_
  refine sh_cget (20 + s) 5 dc_Shared_mustQueue_13 (cw_oh (by omega) hk_s) rfl (by decide) fl_Shared_21 rfl rfl rfl rfl ?_
  refine sh_ctv (cw_rf_n c2_13 (by omega)) ?_
  refine sh_cp (fun w Z k => sh_aload_n dc_Shared_mustQueue_16 rfl rfl k) ?_
  refine sh_cacmp_ne (tgt := 22) dc_Shared_mustQueue_17 (by decide) (by rw [cw_ow (by omega)]; rfl) (by rw [cw_ow (by omega)]; rfl) (fun _ => ?_) (fun z => absurd z (by omega))
  refine sh_cp (fun w Z k => sh_iload_n dc_Shared_mustQueue_22 rfl rfl k) ?_
  refine sh_cp (fun w Z k => sh_if_ne (tgt := 44) dc_Shared_mustQueue_23 (by decide) (fun z => absurd c4_23 z) (fun _ => k)) ?_
  refine sh_cp (fun w Z k => sh_aload_n dc_Shared_mustQueue_26 rfl rfl k) ?_
  refine sh_cget (20 + s) 1 dc_Shared_mustQueue_27 (cw_oh (by omega) hk_s) rfl (by decide) fl_Shared_36 rfl rfl rfl rfl ?_
  refine sh_ccall (fun w hw => sh_virt (As := []) dc_Shared_mustQueue_30 lm_Waiters_firstToWrite ln_Shared_40 wd_567 wd_14 rfl rfl (Nat.le_of_ble_eq_true rfl) (hw _ _ (cw_ot (by omega) (cw_nz hk_s (by decide)))) rfl) (cl_firstToWrite (s := s) (l := l) (by omega) (cw_nz hk_s (by decide)) hr) ⟨(Nat.le_of_ble_eq_true rfl), (Nat.le_of_ble_eq_true rfl), (Nat.le_of_ble_eq_true rfl), (Nat.le_of_ble_eq_true rfl)⟩ ?_
  show sh_cW _ _ (_, _, [va_rf ((sp_fw K l).map fun u => A (10 + u))]) K L _ _ _ _ _
  refine sh_ctv (show _ = Value.null by rw [c5_30]; rfl) ?_
  refine sh_cp (fun w Z k => sh_ifnullN (tgt := 40) dc_Shared_mustQueue_33 (by decide) k) ?_
  refine sh_cp (fun w Z k => sh_iconst (v := 0) dc_Shared_mustQueue_40 (by decide) k) ?_
  refine sh_cp (fun w Z k => sh_goto_ (tgt := 59) dc_Shared_mustQueue_41 (by decide) k) ?_
  exact sh_ce (fun w => sh_ireturn dc_Shared_mustQueue_59 rfl rfl (by decide) (by decide))
theorem ct_Shared_mustQueue_8 {A : Nat → Nat} {K : sh_II} {L : sh_DD} {t : Nat} {s : Nat} {m : Int32} {l : List Nat} {u13_13 : Nat} {q30 : Nat} (ht : t < 6) (hs : s < 8) (hr : cw_row K s l) (hk_s : cw_cl (K 12 s) = 7) (c0_9 : ¬ 0 < (K 17 (6 * s + t))) (hu13_13 : u13_13 < 6) (c2_13 : (K 13 s) = nI u13_13) (c3_17 : ¬ u13_13 = t) (c4_23 : m = 0) (hq30 : q30 < 6) (c6_30 : (sp_fw K l) = some q30) : sh_cM A md_Shared_mustQueue [.ref (A (20 + s)), .ref (A (10 + t)), .int m] K L (.inl (some (.int 1))) K L := by
  refine sh_cp (fun w Z k => sh_aload_n dc_Shared_mustQueue_0 rfl rfl k) ?_
  refine sh_cget (20 + s) 4 dc_Shared_mustQueue_1 (cw_oh (by omega) hk_s) rfl (by decide) fl_Shared_9 rfl rfl rfl rfl ?_
  refine sh_cp (fun w Z k => sh_aload_n dc_Shared_mustQueue_4 rfl rfl k) ?_
  refine sh_cget (10 + t) 0 dc_Shared_mustQueue_5 (cw_ow (by omega)) rfl (by decide) fl_Shared_15 rfl rfl rfl rfl ?_
  refine sh_ciald (50 + s) (k := t) dc_Shared_mustQueue_8 (cw_od (by omega) hk_s) rfl (by omega) (by decide) ?_
  refine sh_cp (fun w Z k => sh_if_gt (tgt := 20) dc_Shared_mustQueue_9 (by decide) (fun z => absurd z c0_9) (fun _ => k)) ?_
  refine sh_cp (fun w Z k => sh_aload_n dc_Shared_mustQueue_12 rfl rfl k) ?_
  refine sh_cget (20 + s) 5 dc_Shared_mustQueue_13 (cw_oh (by omega) hk_s) rfl (by decide) fl_Shared_21 rfl rfl rfl rfl ?_
  refine sh_ctv (cw_rf_n c2_13 (by omega)) ?_
  refine sh_cp (fun w Z k => sh_aload_n dc_Shared_mustQueue_16 rfl rfl k) ?_
  refine sh_cacmp_ne (tgt := 22) dc_Shared_mustQueue_17 (by decide) (by rw [cw_ow (by omega)]; rfl) (by rw [cw_ow (by omega)]; rfl) (fun _ => ?_) (fun z => absurd z (by omega))
  refine sh_cp (fun w Z k => sh_iload_n dc_Shared_mustQueue_22 rfl rfl k) ?_
  refine sh_cp (fun w Z k => sh_if_ne (tgt := 44) dc_Shared_mustQueue_23 (by decide) (fun z => absurd c4_23 z) (fun _ => k)) ?_
  refine sh_cp (fun w Z k => sh_aload_n dc_Shared_mustQueue_26 rfl rfl k) ?_
  refine sh_cget (20 + s) 1 dc_Shared_mustQueue_27 (cw_oh (by omega) hk_s) rfl (by decide) fl_Shared_36 rfl rfl rfl rfl ?_
  refine sh_ccall (fun w hw => sh_virt (As := []) dc_Shared_mustQueue_30 lm_Waiters_firstToWrite ln_Shared_40 wd_567 wd_14 rfl rfl (Nat.le_of_ble_eq_true rfl) (hw _ _ (cw_ot (by omega) (cw_nz hk_s (by decide)))) rfl) (cl_firstToWrite (s := s) (l := l) (by omega) (cw_nz hk_s (by decide)) hr) ⟨(Nat.le_of_ble_eq_true rfl), (Nat.le_of_ble_eq_true rfl), (Nat.le_of_ble_eq_true rfl), (Nat.le_of_ble_eq_true rfl)⟩ ?_
  show sh_cW _ _ (_, _, [va_rf ((sp_fw K l).map fun u => A (10 + u))]) K L _ _ _ _ _
  refine sh_ctv (show _ = Value.ref (A (10 + q30)) by rw [c6_30]; rfl) ?_
  refine sh_cp (fun w Z k => sh_ifnull dc_Shared_mustQueue_33 k) ?_
  refine sh_cp (fun w Z k => sh_iconst (v := 1) dc_Shared_mustQueue_36 (by decide) k) ?_
  refine sh_cp (fun w Z k => sh_goto_ (tgt := 59) dc_Shared_mustQueue_37 (by decide) k) ?_
  exact sh_ce (fun w => sh_ireturn dc_Shared_mustQueue_59 rfl rfl (by decide) (by decide))
theorem ct_Shared_mustQueue_9 {A : Nat → Nat} {K : sh_II} {L : sh_DD} {t : Nat} {s : Nat} {m : Int32} {l : List Nat} {u13_13 : Nat} (ht : t < 6) (hs : s < 8) (hr : cw_row K s l) (hk_s : cw_cl (K 12 s) = 7) (c0_9 : ¬ 0 < (K 17 (6 * s + t))) (hu13_13 : u13_13 < 6) (c2_13 : (K 13 s) = nI u13_13) (c3_17 : ¬ u13_13 = t) (c4_23 : ¬ m = 0) (c5_51 : (K 19 s) ≤ 0) : sh_cM A md_Shared_mustQueue [.ref (A (20 + s)), .ref (A (10 + t)), .int m] K L (.inl (some (.int 0))) K L := by
  refine sh_cp (fun w Z k => sh_aload_n dc_Shared_mustQueue_0 rfl rfl k) ?_
  refine sh_cget (20 + s) 4 dc_Shared_mustQueue_1 (cw_oh (by omega) hk_s) rfl (by decide) fl_Shared_9 rfl rfl rfl rfl ?_
  refine sh_cp (fun w Z k => sh_aload_n dc_Shared_mustQueue_4 rfl rfl k) ?_
  refine sh_cget (10 + t) 0 dc_Shared_mustQueue_5 (cw_ow (by omega)) rfl (by decide) fl_Shared_15 rfl rfl rfl rfl ?_
  refine sh_ciald (50 + s) (k := t) dc_Shared_mustQueue_8 (cw_od (by omega) hk_s) rfl (by omega) (by decide) ?_
  refine sh_cp (fun w Z k => sh_if_gt (tgt := 20) dc_Shared_mustQueue_9 (by decide) (fun z => absurd z c0_9) (fun _ => k)) ?_
  refine sh_cp (fun w Z k => sh_aload_n dc_Shared_mustQueue_12 rfl rfl k) ?_
  refine sh_cget (20 + s) 5 dc_Shared_mustQueue_13 (cw_oh (by omega) hk_s) rfl (by decide) fl_Shared_21 rfl rfl rfl rfl ?_
  refine sh_ctv (cw_rf_n c2_13 (by omega)) ?_
  refine sh_cp (fun w Z k => sh_aload_n dc_Shared_mustQueue_16 rfl rfl k) ?_
  refine sh_cacmp_ne (tgt := 22) dc_Shared_mustQueue_17 (by decide) (by rw [cw_ow (by omega)]; rfl) (by rw [cw_ow (by omega)]; rfl) (fun _ => ?_) (fun z => absurd z (by omega))
  refine sh_cp (fun w Z k => sh_iload_n dc_Shared_mustQueue_22 rfl rfl k) ?_
  refine sh_cp (fun w Z k => sh_if_ne (tgt := 44) dc_Shared_mustQueue_23 (by decide) (fun _ => k) (fun z => absurd z c4_23)) ?_
  refine sh_cp (fun w Z k => sh_aload_n dc_Shared_mustQueue_44 rfl rfl k) ?_
  refine sh_cget (20 + s) 1 dc_Shared_mustQueue_45 (cw_oh (by omega) hk_s) rfl (by decide) fl_Shared_36 rfl rfl rfl rfl ?_
  refine sh_ccall (fun w hw => sh_virt (As := []) dc_Shared_mustQueue_48 lm_Waiters_size ln_Shared_46 wd_552 wd_12 rfl rfl (Nat.le_of_ble_eq_true rfl) (hw _ _ (cw_ot (by omega) (cw_nz hk_s (by decide)))) rfl) (ct_Waiters_size_1 (s := s) (by omega) (cw_nz hk_s (by decide))) ⟨(Nat.le_of_ble_eq_true rfl), (Nat.le_of_ble_eq_true rfl), (Nat.le_of_ble_eq_true rfl), (Nat.le_of_ble_eq_true rfl)⟩ ?_
  show sh_cW _ _ (_, _, [.int (K 19 s)]) K L _ _ _ _ _
  refine sh_cp (fun w Z k => sh_if_le (tgt := 58) dc_Shared_mustQueue_51 (by decide) (fun _ => k) (fun z => absurd c5_51 z)) ?_
  refine sh_cp (fun w Z k => sh_iconst (v := 0) dc_Shared_mustQueue_58 (by decide) k) ?_
  exact sh_ce (fun w => sh_ireturn dc_Shared_mustQueue_59 rfl rfl (by decide) (by decide))
theorem ct_Shared_mustQueue_10 {A : Nat → Nat} {K : sh_II} {L : sh_DD} {t : Nat} {s : Nat} {m : Int32} {l : List Nat} {u13_13 : Nat} (ht : t < 6) (hs : s < 8) (hr : cw_row K s l) (hk_s : cw_cl (K 12 s) = 7) (c0_9 : ¬ 0 < (K 17 (6 * s + t))) (hu13_13 : u13_13 < 6) (c2_13 : (K 13 s) = nI u13_13) (c3_17 : ¬ u13_13 = t) (c4_23 : ¬ m = 0) (c5_51 : ¬ (K 19 s) ≤ 0) : sh_cM A md_Shared_mustQueue [.ref (A (20 + s)), .ref (A (10 + t)), .int m] K L (.inl (some (.int 1))) K L := by
  refine sh_cp (fun w Z k => sh_aload_n dc_Shared_mustQueue_0 rfl rfl k) ?_
  refine sh_cget (20 + s) 4 dc_Shared_mustQueue_1 (cw_oh (by omega) hk_s) rfl (by decide) fl_Shared_9 rfl rfl rfl rfl ?_
  refine sh_cp (fun w Z k => sh_aload_n dc_Shared_mustQueue_4 rfl rfl k) ?_
  refine sh_cget (10 + t) 0 dc_Shared_mustQueue_5 (cw_ow (by omega)) rfl (by decide) fl_Shared_15 rfl rfl rfl rfl ?_
  refine sh_ciald (50 + s) (k := t) dc_Shared_mustQueue_8 (cw_od (by omega) hk_s) rfl (by omega) (by decide) ?_
  refine sh_cp (fun w Z k => sh_if_gt (tgt := 20) dc_Shared_mustQueue_9 (by decide) (fun z => absurd z c0_9) (fun _ => k)) ?_
  refine sh_cp (fun w Z k => sh_aload_n dc_Shared_mustQueue_12 rfl rfl k) ?_
  refine sh_cget (20 + s) 5 dc_Shared_mustQueue_13 (cw_oh (by omega) hk_s) rfl (by decide) fl_Shared_21 rfl rfl rfl rfl ?_
  refine sh_ctv (cw_rf_n c2_13 (by omega)) ?_
  refine sh_cp (fun w Z k => sh_aload_n dc_Shared_mustQueue_16 rfl rfl k) ?_
  refine sh_cacmp_ne (tgt := 22) dc_Shared_mustQueue_17 (by decide) (by rw [cw_ow (by omega)]; rfl) (by rw [cw_ow (by omega)]; rfl) (fun _ => ?_) (fun z => absurd z (by omega))
  refine sh_cp (fun w Z k => sh_iload_n dc_Shared_mustQueue_22 rfl rfl k) ?_
  refine sh_cp (fun w Z k => sh_if_ne (tgt := 44) dc_Shared_mustQueue_23 (by decide) (fun _ => k) (fun z => absurd z c4_23)) ?_
  refine sh_cp (fun w Z k => sh_aload_n dc_Shared_mustQueue_44 rfl rfl k) ?_
  refine sh_cget (20 + s) 1 dc_Shared_mustQueue_45 (cw_oh (by omega) hk_s) rfl (by decide) fl_Shared_36 rfl rfl rfl rfl ?_
  refine sh_ccall (fun w hw => sh_virt (As := []) dc_Shared_mustQueue_48 lm_Waiters_size ln_Shared_46 wd_552 wd_12 rfl rfl (Nat.le_of_ble_eq_true rfl) (hw _ _ (cw_ot (by omega) (cw_nz hk_s (by decide)))) rfl) (ct_Waiters_size_1 (s := s) (by omega) (cw_nz hk_s (by decide))) ⟨(Nat.le_of_ble_eq_true rfl), (Nat.le_of_ble_eq_true rfl), (Nat.le_of_ble_eq_true rfl), (Nat.le_of_ble_eq_true rfl)⟩ ?_
  show sh_cW _ _ (_, _, [.int (K 19 s)]) K L _ _ _ _ _
  refine sh_cp (fun w Z k => sh_if_le (tgt := 58) dc_Shared_mustQueue_51 (by decide) (fun z => absurd z c5_51) (fun _ => k)) ?_
  refine sh_cp (fun w Z k => sh_iconst (v := 1) dc_Shared_mustQueue_54 (by decide) k) ?_
  refine sh_cp (fun w Z k => sh_goto_ (tgt := 59) dc_Shared_mustQueue_55 (by decide) k) ?_
  exact sh_ce (fun w => sh_ireturn dc_Shared_mustQueue_59 rfl rfl (by decide) (by decide))
theorem ct_Semaphore_next_1 {A : Nat → Nat} {K : sh_II} {L : sh_DD} {s : Nat} {l : List Nat} (hs : s < 8) (hr : cw_row K s l) (hk_s : cw_cl (K 12 s) = 5) (c0_5 : (K 12 s) = 3) (c1_12 : (sp_gp L l) = none) : sh_cM A md_Semaphore_next [.ref (A (20 + s))] K L (.inl (some (.null))) K L := by
  refine sh_cp (fun w Z k => sh_aload_n dc_Semaphore_next_0 rfl rfl k) ?_
  refine sh_cget (20 + s) 0 dc_Semaphore_next_1 (cw_oe (by omega) hk_s) rfl (by decide) fl_Semaphore_32 rfl rfl rfl rfl ?_
  refine sh_cp (fun w Z k => sh_iconst (v := 3) dc_Semaphore_next_4 (by decide) k) ?_
  refine sh_cp (fun w Z k => sh_icmp_ne (tgt := 18) dc_Semaphore_next_5 (by decide) (fun z => absurd c0_5 z) (fun _ => k)) ?_
  refine sh_cp (fun w Z k => sh_aload_n dc_Semaphore_next_8 rfl rfl k) ?_
  refine sh_cget (20 + s) 1 dc_Semaphore_next_9 (cw_oe (by omega) hk_s) rfl (by decide) fl_Semaphore_15 rfl rfl rfl rfl ?_
  refine sh_ccall (fun w hw => sh_virt (As := []) dc_Semaphore_next_12 lm_Waiters_firstOfGreatestPriority ln_Semaphore_35 wd_686 wd_21 rfl rfl (Nat.le_of_ble_eq_true rfl) (hw _ _ (cw_ot (by omega) (cw_nz hk_s (by decide)))) rfl) (cl_greatest (s := s) (l := l) (by omega) (cw_nz hk_s (by decide)) hr) ⟨(Nat.le_of_ble_eq_true rfl), (Nat.le_of_ble_eq_true rfl), (Nat.le_of_ble_eq_true rfl), (Nat.le_of_ble_eq_true rfl)⟩ ?_
  show sh_cW _ _ (_, _, [va_rf ((sp_gp L l).map fun u => A (10 + u))]) K L _ _ _ _ _
  refine sh_ctv (show _ = Value.null by rw [c1_12]; rfl) ?_
  refine sh_cp (fun w Z k => sh_goto_ (tgt := 26) dc_Semaphore_next_15 (by decide) k) ?_
  exact sh_ce (fun w => sh_areturn (v := none) dc_Semaphore_next_26 rfl (by decide) (by decide))
theorem ct_Semaphore_next_2 {A : Nat → Nat} {K : sh_II} {L : sh_DD} {s : Nat} {l : List Nat} {q12 : Nat} (hs : s < 8) (hr : cw_row K s l) (hk_s : cw_cl (K 12 s) = 5) (c0_5 : (K 12 s) = 3) (hq12 : q12 < 6) (c2_12 : (sp_gp L l) = some q12) : sh_cM A md_Semaphore_next [.ref (A (20 + s))] K L (.inl (some (.ref (A (10 + q12))))) K L := by
  refine sh_cp (fun w Z k => sh_aload_n dc_Semaphore_next_0 rfl rfl k) ?_
  refine sh_cget (20 + s) 0 dc_Semaphore_next_1 (cw_oe (by omega) hk_s) rfl (by decide) fl_Semaphore_32 rfl rfl rfl rfl ?_
  refine sh_cp (fun w Z k => sh_iconst (v := 3) dc_Semaphore_next_4 (by decide) k) ?_
  refine sh_cp (fun w Z k => sh_icmp_ne (tgt := 18) dc_Semaphore_next_5 (by decide) (fun z => absurd c0_5 z) (fun _ => k)) ?_
  refine sh_cp (fun w Z k => sh_aload_n dc_Semaphore_next_8 rfl rfl k) ?_
  refine sh_cget (20 + s) 1 dc_Semaphore_next_9 (cw_oe (by omega) hk_s) rfl (by decide) fl_Semaphore_15 rfl rfl rfl rfl ?_
  refine sh_ccall (fun w hw => sh_virt (As := []) dc_Semaphore_next_12 lm_Waiters_firstOfGreatestPriority ln_Semaphore_35 wd_686 wd_21 rfl rfl (Nat.le_of_ble_eq_true rfl) (hw _ _ (cw_ot (by omega) (cw_nz hk_s (by decide)))) rfl) (cl_greatest (s := s) (l := l) (by omega) (cw_nz hk_s (by decide)) hr) ⟨(Nat.le_of_ble_eq_true rfl), (Nat.le_of_ble_eq_true rfl), (Nat.le_of_ble_eq_true rfl), (Nat.le_of_ble_eq_true rfl)⟩ ?_
  show sh_cW _ _ (_, _, [va_rf ((sp_gp L l).map fun u => A (10 + u))]) K L _ _ _ _ _
  refine sh_ctv (show _ = Value.ref (A (10 + q12)) by rw [c2_12]; rfl) ?_
  refine sh_cp (fun w Z k => sh_goto_ (tgt := 26) dc_Semaphore_next_15 (by decide) k) ?_
  exact sh_ce (fun w => sh_areturn (v := (some (A (10 + q12)))) dc_Semaphore_next_26 rfl (by decide) (by decide))
theorem ct_Semaphore_next_3 {A : Nat → Nat} {K : sh_II} {L : sh_DD} {s : Nat} {l : List Nat} (hs : s < 8) (hr : cw_row K s l) (hk_s : cw_cl (K 12 s) = 5) (c0_5 : ¬ (K 12 s) = 3) (c1_23 : (K 19 s) ≤ 0) : sh_cM A md_Semaphore_next [.ref (A (20 + s))] K L (.inl (some (.null))) K L := by
  refine sh_cp (fun w Z k => sh_aload_n dc_Semaphore_next_0 rfl rfl k) ?_
  refine sh_cget (20 + s) 0 dc_Semaphore_next_1 (cw_oe (by omega) hk_s) rfl (by decide) fl_Semaphore_32 rfl rfl rfl rfl ?_
  refine sh_cp (fun w Z k => sh_iconst (v := 3) dc_Semaphore_next_4 (by decide) k) ?_
  refine sh_cp (fun w Z k => sh_icmp_ne (tgt := 18) dc_Semaphore_next_5 (by decide) (fun _ => k) (fun z => absurd z c0_5)) ?_
  refine sh_cp (fun w Z k => sh_aload_n dc_Semaphore_next_18 rfl rfl k) ?_
  refine sh_cget (20 + s) 1 dc_Semaphore_next_19 (cw_oe (by omega) hk_s) rfl (by decide) fl_Semaphore_15 rfl rfl rfl rfl ?_
  refine sh_cp (fun w Z k => sh_iconst (v := 0) dc_Semaphore_next_22 (by decide) k) ?_
  refine sh_ccall (fun w hw => sh_virt (As := [.int 0]) dc_Semaphore_next_23 lm_Waiters_at ln_Semaphore_39 wd_690 wd_22 rfl rfl (Nat.le_of_ble_eq_true rfl) (hw _ _ (cw_ot (by omega) (cw_nz hk_s (by decide)))) rfl) (ct_Waiters_at_0_1 (s := s) (by omega) (cw_nz hk_s (by decide)) c1_23) ⟨(Nat.le_of_ble_eq_true rfl), (Nat.le_of_ble_eq_true rfl), (Nat.le_of_ble_eq_true rfl), (Nat.le_of_ble_eq_true rfl)⟩ ?_
  show sh_cW _ _ (_, _, [.null]) K L _ _ _ _ _
  exact sh_ce (fun w => sh_areturn (v := none) dc_Semaphore_next_26 rfl (by decide) (by decide))
theorem ct_Semaphore_next_4 {A : Nat → Nat} {K : sh_II} {L : sh_DD} {s : Nat} {l : List Nat} (hs : s < 8) (hr : cw_row K s l) (hk_s : cw_cl (K 12 s) = 5) (c0_5 : ¬ (K 12 s) = 3) (c1_23 : ¬ (K 19 s) ≤ 0) (c2_23 : (K 18 (6 * s + 0)) = -1) : sh_cM A md_Semaphore_next [.ref (A (20 + s))] K L (.inl (some (.null))) K L := by
  refine sh_cp (fun w Z k => sh_aload_n dc_Semaphore_next_0 rfl rfl k) ?_
  refine sh_cget (20 + s) 0 dc_Semaphore_next_1 (cw_oe (by omega) hk_s) rfl (by decide) fl_Semaphore_32 rfl rfl rfl rfl ?_
  refine sh_cp (fun w Z k => sh_iconst (v := 3) dc_Semaphore_next_4 (by decide) k) ?_
  refine sh_cp (fun w Z k => sh_icmp_ne (tgt := 18) dc_Semaphore_next_5 (by decide) (fun _ => k) (fun z => absurd z c0_5)) ?_
  refine sh_cp (fun w Z k => sh_aload_n dc_Semaphore_next_18 rfl rfl k) ?_
  refine sh_cget (20 + s) 1 dc_Semaphore_next_19 (cw_oe (by omega) hk_s) rfl (by decide) fl_Semaphore_15 rfl rfl rfl rfl ?_
  refine sh_cp (fun w Z k => sh_iconst (v := 0) dc_Semaphore_next_22 (by decide) k) ?_
  refine sh_ccall (fun w hw => sh_virt (As := [.int 0]) dc_Semaphore_next_23 lm_Waiters_at ln_Semaphore_39 wd_690 wd_22 rfl rfl (Nat.le_of_ble_eq_true rfl) (hw _ _ (cw_ot (by omega) (cw_nz hk_s (by decide)))) rfl) (ct_Waiters_at_0_2 (s := s) (by omega) (cw_nz hk_s (by decide)) c1_23 c2_23) ⟨(Nat.le_of_ble_eq_true rfl), (Nat.le_of_ble_eq_true rfl), (Nat.le_of_ble_eq_true rfl), (Nat.le_of_ble_eq_true rfl)⟩ ?_
  show sh_cW _ _ (_, _, [.null]) K L _ _ _ _ _
  exact sh_ce (fun w => sh_areturn (v := none) dc_Semaphore_next_26 rfl (by decide) (by decide))
theorem ct_Semaphore_next_5 {A : Nat → Nat} {K : sh_II} {L : sh_DD} {s : Nat} {l : List Nat} {u18_23 : Nat} (hs : s < 8) (hr : cw_row K s l) (hk_s : cw_cl (K 12 s) = 5) (c0_5 : ¬ (K 12 s) = 3) (c1_23 : ¬ (K 19 s) ≤ 0) (hu18_23 : u18_23 < 6) (c3_23 : (K 18 (6 * s + 0)) = nI u18_23) : sh_cM A md_Semaphore_next [.ref (A (20 + s))] K L (.inl (some (.ref (A (10 + u18_23))))) K L := by
  refine sh_cp (fun w Z k => sh_aload_n dc_Semaphore_next_0 rfl rfl k) ?_
  refine sh_cget (20 + s) 0 dc_Semaphore_next_1 (cw_oe (by omega) hk_s) rfl (by decide) fl_Semaphore_32 rfl rfl rfl rfl ?_
  refine sh_cp (fun w Z k => sh_iconst (v := 3) dc_Semaphore_next_4 (by decide) k) ?_
  refine sh_cp (fun w Z k => sh_icmp_ne (tgt := 18) dc_Semaphore_next_5 (by decide) (fun _ => k) (fun z => absurd z c0_5)) ?_
  refine sh_cp (fun w Z k => sh_aload_n dc_Semaphore_next_18 rfl rfl k) ?_
  refine sh_cget (20 + s) 1 dc_Semaphore_next_19 (cw_oe (by omega) hk_s) rfl (by decide) fl_Semaphore_15 rfl rfl rfl rfl ?_
  refine sh_cp (fun w Z k => sh_iconst (v := 0) dc_Semaphore_next_22 (by decide) k) ?_
  refine sh_ccall (fun w hw => sh_virt (As := [.int 0]) dc_Semaphore_next_23 lm_Waiters_at ln_Semaphore_39 wd_690 wd_22 rfl rfl (Nat.le_of_ble_eq_true rfl) (hw _ _ (cw_ot (by omega) (cw_nz hk_s (by decide)))) rfl) (ct_Waiters_at_0_3 (s := s) (u18_17 := u18_23) (by omega) (cw_nz hk_s (by decide)) c1_23 (by omega) c3_23) ⟨(Nat.le_of_ble_eq_true rfl), (Nat.le_of_ble_eq_true rfl), (Nat.le_of_ble_eq_true rfl), (Nat.le_of_ble_eq_true rfl)⟩ ?_
  show sh_cW _ _ (_, _, [.ref (A (10 + u18_23))]) K L _ _ _ _ _
  exact sh_ce (fun w => sh_areturn (v := (some (A (10 + u18_23)))) dc_Semaphore_next_26 rfl (by decide) (by decide))
theorem ct_Shared_next_1 {A : Nat → Nat} {K : sh_II} {L : sh_DD} {s : Nat} {l : List Nat} (hs : s < 8) (hr : cw_row K s l) (hk_s : cw_cl (K 12 s) = 7) (c0_4 : (sp_fw K l) = none) (c1_17 : (K 19 s) ≤ 0) : sh_cM A md_Shared_next [.ref (A (20 + s))] K L (.inl (some (.null))) K L := by
  refine sh_cp (fun w Z k => sh_aload_n dc_Shared_next_0 rfl rfl k) ?_
  refine sh_cget (20 + s) 1 dc_Shared_next_1 (cw_oh (by omega) hk_s) rfl (by decide) fl_Shared_36 rfl rfl rfl rfl ?_
  refine sh_ccall (fun w hw => sh_virt (As := []) dc_Shared_next_4 lm_Waiters_firstToWrite ln_Shared_40 wd_567 wd_14 rfl rfl (Nat.le_of_ble_eq_true rfl) (hw _ _ (cw_ot (by omega) (cw_nz hk_s (by decide)))) rfl) (cl_firstToWrite (s := s) (l := l) (by omega) (cw_nz hk_s (by decide)) hr) ⟨(Nat.le_of_ble_eq_true rfl), (Nat.le_of_ble_eq_true rfl), (Nat.le_of_ble_eq_true rfl), (Nat.le_of_ble_eq_true rfl)⟩ ?_
  show sh_cW _ _ (_, _, [va_rf ((sp_fw K l).map fun u => A (10 + u))]) K L _ _ _ _ _
  refine sh_ctv (show _ = Value.null by rw [c0_4]; rfl) ?_
  refine sh_cp (fun w Z k => sh_astore_nN dc_Shared_next_7 rfl (by decide) k) ?_
  refine sh_cp (fun w Z k => sh_aload_nq (x := none) dc_Shared_next_8 rfl rfl k) ?_
  show sh_cW _ _ (_, _, .null :: _) _ _ _ _ _ _ _
  refine sh_cp (fun w Z k => sh_ifnonnullN dc_Shared_next_9 k) ?_
  refine sh_cp (fun w Z k => sh_aload_n dc_Shared_next_12 rfl rfl k) ?_
  refine sh_cget (20 + s) 1 dc_Shared_next_13 (cw_oh (by omega) hk_s) rfl (by decide) fl_Shared_36 rfl rfl rfl rfl ?_
  refine sh_cp (fun w Z k => sh_iconst (v := 0) dc_Shared_next_16 (by decide) k) ?_
  refine sh_ccall (fun w hw => sh_virt (As := [.int 0]) dc_Shared_next_17 lm_Waiters_at ln_Shared_60 wd_690 wd_22 rfl rfl (Nat.le_of_ble_eq_true rfl) (hw _ _ (cw_ot (by omega) (cw_nz hk_s (by decide)))) rfl) (ct_Waiters_at_0_1 (s := s) (by omega) (cw_nz hk_s (by decide)) c1_17) ⟨(Nat.le_of_ble_eq_true rfl), (Nat.le_of_ble_eq_true rfl), (Nat.le_of_ble_eq_true rfl), (Nat.le_of_ble_eq_true rfl)⟩ ?_
  show sh_cW _ _ (_, _, [.null]) K L _ _ _ _ _
  refine sh_cp (fun w Z k => sh_goto_ (tgt := 24) dc_Shared_next_20 (by decide) k) ?_
  exact sh_ce (fun w => sh_areturn (v := none) dc_Shared_next_24 rfl (by decide) (by decide))
theorem ct_Shared_next_2 {A : Nat → Nat} {K : sh_II} {L : sh_DD} {s : Nat} {l : List Nat} (hs : s < 8) (hr : cw_row K s l) (hk_s : cw_cl (K 12 s) = 7) (c0_4 : (sp_fw K l) = none) (c1_17 : ¬ (K 19 s) ≤ 0) (c2_17 : (K 18 (6 * s + 0)) = -1) : sh_cM A md_Shared_next [.ref (A (20 + s))] K L (.inl (some (.null))) K L := by
  refine sh_cp (fun w Z k => sh_aload_n dc_Shared_next_0 rfl rfl k) ?_
  refine sh_cget (20 + s) 1 dc_Shared_next_1 (cw_oh (by omega) hk_s) rfl (by decide) fl_Shared_36 rfl rfl rfl rfl ?_
  refine sh_ccall (fun w hw => sh_virt (As := []) dc_Shared_next_4 lm_Waiters_firstToWrite ln_Shared_40 wd_567 wd_14 rfl rfl (Nat.le_of_ble_eq_true rfl) (hw _ _ (cw_ot (by omega) (cw_nz hk_s (by decide)))) rfl) (cl_firstToWrite (s := s) (l := l) (by omega) (cw_nz hk_s (by decide)) hr) ⟨(Nat.le_of_ble_eq_true rfl), (Nat.le_of_ble_eq_true rfl), (Nat.le_of_ble_eq_true rfl), (Nat.le_of_ble_eq_true rfl)⟩ ?_
  show sh_cW _ _ (_, _, [va_rf ((sp_fw K l).map fun u => A (10 + u))]) K L _ _ _ _ _
  refine sh_ctv (show _ = Value.null by rw [c0_4]; rfl) ?_
  refine sh_cp (fun w Z k => sh_astore_nN dc_Shared_next_7 rfl (by decide) k) ?_
  refine sh_cp (fun w Z k => sh_aload_nq (x := none) dc_Shared_next_8 rfl rfl k) ?_
  show sh_cW _ _ (_, _, .null :: _) _ _ _ _ _ _ _
  refine sh_cp (fun w Z k => sh_ifnonnullN dc_Shared_next_9 k) ?_
  refine sh_cp (fun w Z k => sh_aload_n dc_Shared_next_12 rfl rfl k) ?_
  refine sh_cget (20 + s) 1 dc_Shared_next_13 (cw_oh (by omega) hk_s) rfl (by decide) fl_Shared_36 rfl rfl rfl rfl ?_
  refine sh_cp (fun w Z k => sh_iconst (v := 0) dc_Shared_next_16 (by decide) k) ?_
  refine sh_ccall (fun w hw => sh_virt (As := [.int 0]) dc_Shared_next_17 lm_Waiters_at ln_Shared_60 wd_690 wd_22 rfl rfl (Nat.le_of_ble_eq_true rfl) (hw _ _ (cw_ot (by omega) (cw_nz hk_s (by decide)))) rfl) (ct_Waiters_at_0_2 (s := s) (by omega) (cw_nz hk_s (by decide)) c1_17 c2_17) ⟨(Nat.le_of_ble_eq_true rfl), (Nat.le_of_ble_eq_true rfl), (Nat.le_of_ble_eq_true rfl), (Nat.le_of_ble_eq_true rfl)⟩ ?_
  show sh_cW _ _ (_, _, [.null]) K L _ _ _ _ _
  refine sh_cp (fun w Z k => sh_goto_ (tgt := 24) dc_Shared_next_20 (by decide) k) ?_
  exact sh_ce (fun w => sh_areturn (v := none) dc_Shared_next_24 rfl (by decide) (by decide))
theorem ct_Shared_next_3 {A : Nat → Nat} {K : sh_II} {L : sh_DD} {s : Nat} {l : List Nat} {u18_17 : Nat} (hs : s < 8) (hr : cw_row K s l) (hk_s : cw_cl (K 12 s) = 7) (c0_4 : (sp_fw K l) = none) (c1_17 : ¬ (K 19 s) ≤ 0) (hu18_17 : u18_17 < 6) (c3_17 : (K 18 (6 * s + 0)) = nI u18_17) : sh_cM A md_Shared_next [.ref (A (20 + s))] K L (.inl (some (.ref (A (10 + u18_17))))) K L := by
  refine sh_cp (fun w Z k => sh_aload_n dc_Shared_next_0 rfl rfl k) ?_
  refine sh_cget (20 + s) 1 dc_Shared_next_1 (cw_oh (by omega) hk_s) rfl (by decide) fl_Shared_36 rfl rfl rfl rfl ?_
  refine sh_ccall (fun w hw => sh_virt (As := []) dc_Shared_next_4 lm_Waiters_firstToWrite ln_Shared_40 wd_567 wd_14 rfl rfl (Nat.le_of_ble_eq_true rfl) (hw _ _ (cw_ot (by omega) (cw_nz hk_s (by decide)))) rfl) (cl_firstToWrite (s := s) (l := l) (by omega) (cw_nz hk_s (by decide)) hr) ⟨(Nat.le_of_ble_eq_true rfl), (Nat.le_of_ble_eq_true rfl), (Nat.le_of_ble_eq_true rfl), (Nat.le_of_ble_eq_true rfl)⟩ ?_
  show sh_cW _ _ (_, _, [va_rf ((sp_fw K l).map fun u => A (10 + u))]) K L _ _ _ _ _
  refine sh_ctv (show _ = Value.null by rw [c0_4]; rfl) ?_
  refine sh_cp (fun w Z k => sh_astore_nN dc_Shared_next_7 rfl (by decide) k) ?_
  refine sh_cp (fun w Z k => sh_aload_nq (x := none) dc_Shared_next_8 rfl rfl k) ?_
  show sh_cW _ _ (_, _, .null :: _) _ _ _ _ _ _ _
  refine sh_cp (fun w Z k => sh_ifnonnullN dc_Shared_next_9 k) ?_
  refine sh_cp (fun w Z k => sh_aload_n dc_Shared_next_12 rfl rfl k) ?_
  refine sh_cget (20 + s) 1 dc_Shared_next_13 (cw_oh (by omega) hk_s) rfl (by decide) fl_Shared_36 rfl rfl rfl rfl ?_
  refine sh_cp (fun w Z k => sh_iconst (v := 0) dc_Shared_next_16 (by decide) k) ?_
  refine sh_ccall (fun w hw => sh_virt (As := [.int 0]) dc_Shared_next_17 lm_Waiters_at ln_Shared_60 wd_690 wd_22 rfl rfl (Nat.le_of_ble_eq_true rfl) (hw _ _ (cw_ot (by omega) (cw_nz hk_s (by decide)))) rfl) (ct_Waiters_at_0_3 (s := s) (u18_17 := u18_17) (by omega) (cw_nz hk_s (by decide)) c1_17 (by omega) c3_17) ⟨(Nat.le_of_ble_eq_true rfl), (Nat.le_of_ble_eq_true rfl), (Nat.le_of_ble_eq_true rfl), (Nat.le_of_ble_eq_true rfl)⟩ ?_
  show sh_cW _ _ (_, _, [.ref (A (10 + u18_17))]) K L _ _ _ _ _
  refine sh_cp (fun w Z k => sh_goto_ (tgt := 24) dc_Shared_next_20 (by decide) k) ?_
  exact sh_ce (fun w => sh_areturn (v := (some (A (10 + u18_17)))) dc_Shared_next_24 rfl (by decide) (by decide))
theorem ct_Shared_next_4 {A : Nat → Nat} {K : sh_II} {L : sh_DD} {s : Nat} {l : List Nat} {q4 : Nat} (hs : s < 8) (hr : cw_row K s l) (hk_s : cw_cl (K 12 s) = 7) (hq4 : q4 < 6) (c1_4 : (sp_fw K l) = some q4) : sh_cM A md_Shared_next [.ref (A (20 + s))] K L (.inl (some (.ref (A (10 + q4))))) K L := by
  refine sh_cp (fun w Z k => sh_aload_n dc_Shared_next_0 rfl rfl k) ?_
  refine sh_cget (20 + s) 1 dc_Shared_next_1 (cw_oh (by omega) hk_s) rfl (by decide) fl_Shared_36 rfl rfl rfl rfl ?_
  refine sh_ccall (fun w hw => sh_virt (As := []) dc_Shared_next_4 lm_Waiters_firstToWrite ln_Shared_40 wd_567 wd_14 rfl rfl (Nat.le_of_ble_eq_true rfl) (hw _ _ (cw_ot (by omega) (cw_nz hk_s (by decide)))) rfl) (cl_firstToWrite (s := s) (l := l) (by omega) (cw_nz hk_s (by decide)) hr) ⟨(Nat.le_of_ble_eq_true rfl), (Nat.le_of_ble_eq_true rfl), (Nat.le_of_ble_eq_true rfl), (Nat.le_of_ble_eq_true rfl)⟩ ?_
  show sh_cW _ _ (_, _, [va_rf ((sp_fw K l).map fun u => A (10 + u))]) K L _ _ _ _ _
  refine sh_ctv (show _ = Value.ref (A (10 + q4)) by rw [c1_4]; rfl) ?_
  refine sh_cp (fun w Z k => sh_astore_n dc_Shared_next_7 rfl (by decide) k) ?_
  refine sh_cp (fun w Z k => sh_aload_n dc_Shared_next_8 rfl rfl k) ?_
  refine sh_cp (fun w Z k => sh_ifnonnull (tgt := 23) dc_Shared_next_9 (by decide) k) ?_
  refine sh_cp (fun w Z k => sh_aload_n dc_Shared_next_23 rfl rfl k) ?_
  exact sh_ce (fun w => sh_areturn (v := (some (A (10 + q4)))) dc_Shared_next_24 rfl (by decide) (by decide))
theorem cb_LockOrder_isBeforeAny_p_0_1 {A : Nat → Nat} {K K9 : sh_II} {L L9 : sh_DD} {v9 : Option Value ⊕ Nat} {j : Nat} {x : Int32} (hj : j < 8) (k9 : sh_cW A md_LockOrder_isBeforeAny (10, [(0, .ref (A 3)), (1, .int (nI j)), (2, .int x), (3, .int (K 28 j)), (4, .int 1)], []) K L 0 0 v9 K9 L9) : sh_cW A md_LockOrder_isBeforeAny (0, [(0, .ref (A 3)), (1, .int (nI j)), (2, .int x)], []) K L 0 0 v9 K9 L9 := by
  refine sh_cp (fun w Z k => sh_aload_n dc_LockOrder_isBeforeAny_0 rfl rfl k) ?_
  refine sh_cget 3 0 dc_LockOrder_isBeforeAny_1 cw_o3 rfl (by decide) fl_LockOrder_9 rfl rfl rfl rfl ?_
  refine sh_cp (fun w Z k => sh_iload_n dc_LockOrder_isBeforeAny_4 rfl rfl k) ?_
  refine sh_ciald 4 (k := j) dc_LockOrder_isBeforeAny_5 cw_o4 rfl (by omega) (by decide) ?_
  refine sh_cp (fun w Z k => sh_istore_n dc_LockOrder_isBeforeAny_6 rfl (by decide) k) ?_
  refine sh_cp (fun w Z k => sh_iconst (v := 1) dc_LockOrder_isBeforeAny_7 (by decide) k) ?_
  refine sh_cp (fun w Z k => sh_istore dc_LockOrder_isBeforeAny_8 (by decide) k) ?_
  refine sh_clv [2, 3, 4, 1, 0] rfl ?_
  exact k9
theorem cb_LockOrder_isBeforeAny_e_10_1 {A : Nat → Nat} {K : sh_II} {L : sh_DD} {j : Nat} {x : Int32} {y : Int32} {i : Nat} (hj : j < 8) (hx : 8 ≤ (nI i)) (c0_34 : (y &&& x) = 0) : sh_cW A md_LockOrder_isBeforeAny (10, [(0, .ref (A 3)), (1, .int (nI j)), (2, .int x), (3, .int y), (4, .int (nI i))], []) K L 0 0 (.inl (some (.int 0))) K L := by
  refine sh_cp (fun w Z k => sh_iload dc_LockOrder_isBeforeAny_10 rfl k) ?_
  refine sh_cp (fun w Z k => sh_bipush (v := 8) dc_LockOrder_isBeforeAny_12 (by decide) k) ?_
  refine sh_cp (fun w Z k => sh_icmp_ge (tgt := 31) dc_LockOrder_isBeforeAny_14 (by decide) (fun _ => k) (fun z => absurd hx z)) ?_
  refine sh_cp (fun w Z k => sh_iload_n dc_LockOrder_isBeforeAny_31 rfl rfl k) ?_
  refine sh_cp (fun w Z k => sh_iload_n dc_LockOrder_isBeforeAny_32 rfl rfl k) ?_
  refine sh_cp (fun w Z k => sh_iand dc_LockOrder_isBeforeAny_33 k) ?_
  refine sh_cp (fun w Z k => sh_if_eq (tgt := 41) dc_LockOrder_isBeforeAny_34 (by decide) (fun _ => k) (fun z => absurd c0_34 z)) ?_
  refine sh_cp (fun w Z k => sh_iconst (v := 0) dc_LockOrder_isBeforeAny_41 (by decide) k) ?_
  exact sh_ce (fun w => sh_ireturn dc_LockOrder_isBeforeAny_42 rfl rfl (by decide) (by decide))
theorem cb_LockOrder_isBeforeAny_e_10_2 {A : Nat → Nat} {K : sh_II} {L : sh_DD} {j : Nat} {x : Int32} {y : Int32} {i : Nat} (hj : j < 8) (hx : 8 ≤ (nI i)) (c0_34 : ¬ (y &&& x) = 0) : sh_cW A md_LockOrder_isBeforeAny (10, [(0, .ref (A 3)), (1, .int (nI j)), (2, .int x), (3, .int y), (4, .int (nI i))], []) K L 0 0 (.inl (some (.int 1))) K L := by
  refine sh_cp (fun w Z k => sh_iload dc_LockOrder_isBeforeAny_10 rfl k) ?_
  refine sh_cp (fun w Z k => sh_bipush (v := 8) dc_LockOrder_isBeforeAny_12 (by decide) k) ?_
  refine sh_cp (fun w Z k => sh_icmp_ge (tgt := 31) dc_LockOrder_isBeforeAny_14 (by decide) (fun _ => k) (fun z => absurd hx z)) ?_
  refine sh_cp (fun w Z k => sh_iload_n dc_LockOrder_isBeforeAny_31 rfl rfl k) ?_
  refine sh_cp (fun w Z k => sh_iload_n dc_LockOrder_isBeforeAny_32 rfl rfl k) ?_
  refine sh_cp (fun w Z k => sh_iand dc_LockOrder_isBeforeAny_33 k) ?_
  refine sh_cp (fun w Z k => sh_if_eq (tgt := 41) dc_LockOrder_isBeforeAny_34 (by decide) (fun z => absurd z c0_34) (fun _ => k)) ?_
  refine sh_cp (fun w Z k => sh_iconst (v := 1) dc_LockOrder_isBeforeAny_37 (by decide) k) ?_
  refine sh_cp (fun w Z k => sh_goto_ (tgt := 42) dc_LockOrder_isBeforeAny_38 (by decide) k) ?_
  exact sh_ce (fun w => sh_ireturn dc_LockOrder_isBeforeAny_42 rfl rfl (by decide) (by decide))
theorem cb_LockOrder_isBeforeAny_10_1 {A : Nat → Nat} {K K9 : sh_II} {L L9 : sh_DD} {v9 : Option Value ⊕ Nat} {j : Nat} {x : Int32} {y : Int32} {i : Nat} (hj : j < 8) (hi : i < 8) (hx : ¬ 8 ≤ (nI i)) (k9 : sh_cW A md_LockOrder_isBeforeAny (10, [(0, .ref (A 3)), (1, .int (nI j)), (2, .int x), (3, .int (y ||| (sp_aft K y))), (4, .int (nI (i + 1)))], []) K L 0 0 v9 K9 L9) : sh_cW A md_LockOrder_isBeforeAny (10, [(0, .ref (A 3)), (1, .int (nI j)), (2, .int x), (3, .int y), (4, .int (nI i))], []) K L 0 0 v9 K9 L9 := by
  refine sh_cp (fun w Z k => sh_iload dc_LockOrder_isBeforeAny_10 rfl k) ?_
  refine sh_cp (fun w Z k => sh_bipush (v := 8) dc_LockOrder_isBeforeAny_12 (by decide) k) ?_
  refine sh_cp (fun w Z k => sh_icmp_ge (tgt := 31) dc_LockOrder_isBeforeAny_14 (by decide) (fun z => absurd z hx) (fun _ => k)) ?_
  refine sh_cp (fun w Z k => sh_iload_n dc_LockOrder_isBeforeAny_17 rfl rfl k) ?_
  refine sh_cp (fun w Z k => sh_aload_n dc_LockOrder_isBeforeAny_18 rfl rfl k) ?_
  refine sh_cp (fun w Z k => sh_iload_n dc_LockOrder_isBeforeAny_19 rfl rfl k) ?_
  refine sh_ccall (fun w hw => sh_virt (As := [.int y]) dc_LockOrder_isBeforeAny_20 lm_LockOrder_afterAny ln_LockOrder_22 wd_521 wd_10 rfl rfl (Nat.le_of_ble_eq_true rfl) (hw _ _ cw_o3) rfl) (cl_afterAny (x := y)) ⟨(Nat.le_of_ble_eq_true rfl), (Nat.le_of_ble_eq_true rfl), (Nat.le_of_ble_eq_true rfl), (Nat.le_of_ble_eq_true rfl)⟩ ?_
  show sh_cW _ _ (_, _, [.int (sp_aft K y), .int y]) K L _ _ _ _ _
  refine sh_cp (fun w Z k => sh_ior dc_LockOrder_isBeforeAny_23 k) ?_
  refine sh_cp (fun w Z k => sh_istore_n dc_LockOrder_isBeforeAny_24 rfl (by decide) k) ?_
  refine sh_cp (fun w Z k => sh_iinc (v := nI (i + 1)) dc_LockOrder_isBeforeAny_25 rfl (sh_nadd rfl (rfl : (1 : Int32) = nI 1)) (by decide) k) ?_
  refine sh_cp (fun w Z k => sh_goto_ (tgt := 10) dc_LockOrder_isBeforeAny_28 (by decide) k) ?_
  refine sh_clv [2, 3, 4, 1, 0] rfl ?_
  exact k9
theorem ct_Sync_dequeue_Lock_1 {A : Nat → Nat} {K : sh_II} {L : sh_DD} {t : Nat} {s : Nat} {l : List Nat} (ht : t < 6) (hs : s < 8) (hr : cw_row K s l) (hk_s : cw_cl (K 12 s) = 4) : sh_cM A md_Sync_dequeue [.ref (A (20 + s)), .ref (A (10 + t))] K L (.inl none) (sh_u2 (sh_u2 (sp_row K s (sp_rm l t)) 5 t (-1)) 26 t 0) L := by
  refine sh_cp (fun w Z k => sh_aload_n dc_Sync_dequeue_0 rfl rfl k) ?_
  refine sh_cget (20 + s) 1 dc_Sync_dequeue_1 (cw_ol (by omega) hk_s) rfl (by decide) fl_Sync_18 rfl rfl rfl rfl ?_
  refine sh_cp (fun w Z k => sh_aload_n dc_Sync_dequeue_4 rfl rfl k) ?_
  refine sh_ccall (fun w hw => sh_virt (As := [.ref (A (10 + t))]) dc_Sync_dequeue_5 lm_Waiters_remove ln_Sync_42 wd_711 wd_23 rfl rfl (Nat.le_of_ble_eq_true rfl) (hw _ _ (cw_ot (by omega) (cw_nz hk_s (by decide)))) rfl) (cl_remove (s := s) (t := t) (l := l) (by omega) (by omega) (cw_nz hk_s (by decide)) hr) ⟨(Nat.le_of_ble_eq_true rfl), (Nat.le_of_ble_eq_true rfl), (Nat.le_of_ble_eq_true rfl), (Nat.le_of_ble_eq_true rfl)⟩ ?_
  show sh_cW _ _ (_, _, []) (sp_row K s (sp_rm l t)) L _ _ _ _ _
  refine sh_cp (fun w Z k => sh_aload_n dc_Sync_dequeue_8 rfl rfl k) ?_
  refine sh_cp (fun w Z k => sh_anull dc_Sync_dequeue_9 k) ?_
  refine sh_cput (K1 := (sh_u2 (sp_row K s (sp_rm l t)) 5 t (-1))) (L1 := L) (10 + t) 4 dc_Sync_dequeue_10 (cw_ow (by omega)) rfl (by decide) fl_Sync_26 rfl rfl rfl rfl pd_LSync rfl rfl (cq_Worker_5_null (by omega)) (fun i hi => cw_upI (by decide) hi) ?_
  refine sh_cp (fun w Z k => sh_aload_n dc_Sync_dequeue_13 rfl rfl k) ?_
  refine sh_cp (fun w Z k => sh_iconst (v := 0) dc_Sync_dequeue_14 (by decide) k) ?_
  refine sh_cput (K1 := (sh_u2 (sh_u2 (sp_row K s (sp_rm l t)) 5 t (-1)) 26 t 0)) (L1 := L) (10 + t) 6 dc_Sync_dequeue_15 (cw_ow (by omega)) rfl (by decide) fl_Sync_45 rfl rfl rfl rfl pd_Z rfl rfl (cq_Worker_26 (by omega)) (fun i hi => cw_upI (by decide) hi) ?_
  exact sh_ce (fun w => sh_return dc_Sync_dequeue_18 rfl (by decide) (by decide))
theorem ct_Sync_dequeue_Semaphore_1 {A : Nat → Nat} {K : sh_II} {L : sh_DD} {t : Nat} {s : Nat} {l : List Nat} (ht : t < 6) (hs : s < 8) (hr : cw_row K s l) (hk_s : cw_cl (K 12 s) = 5) : sh_cM A md_Sync_dequeue [.ref (A (20 + s)), .ref (A (10 + t))] K L (.inl none) (sh_u2 (sh_u2 (sp_row K s (sp_rm l t)) 5 t (-1)) 26 t 0) L := by
  refine sh_cp (fun w Z k => sh_aload_n dc_Sync_dequeue_0 rfl rfl k) ?_
  refine sh_cget (20 + s) 1 dc_Sync_dequeue_1 (cw_oe (by omega) hk_s) rfl (by decide) fl_Sync_18 rfl rfl rfl rfl ?_
  refine sh_cp (fun w Z k => sh_aload_n dc_Sync_dequeue_4 rfl rfl k) ?_
  refine sh_ccall (fun w hw => sh_virt (As := [.ref (A (10 + t))]) dc_Sync_dequeue_5 lm_Waiters_remove ln_Sync_42 wd_711 wd_23 rfl rfl (Nat.le_of_ble_eq_true rfl) (hw _ _ (cw_ot (by omega) (cw_nz hk_s (by decide)))) rfl) (cl_remove (s := s) (t := t) (l := l) (by omega) (by omega) (cw_nz hk_s (by decide)) hr) ⟨(Nat.le_of_ble_eq_true rfl), (Nat.le_of_ble_eq_true rfl), (Nat.le_of_ble_eq_true rfl), (Nat.le_of_ble_eq_true rfl)⟩ ?_
  show sh_cW _ _ (_, _, []) (sp_row K s (sp_rm l t)) L _ _ _ _ _
  refine sh_cp (fun w Z k => sh_aload_n dc_Sync_dequeue_8 rfl rfl k) ?_
  refine sh_cp (fun w Z k => sh_anull dc_Sync_dequeue_9 k) ?_
  refine sh_cput (K1 := (sh_u2 (sp_row K s (sp_rm l t)) 5 t (-1))) (L1 := L) (10 + t) 4 dc_Sync_dequeue_10 (cw_ow (by omega)) rfl (by decide) fl_Sync_26 rfl rfl rfl rfl pd_LSync rfl rfl (cq_Worker_5_null (by omega)) (fun i hi => cw_upI (by decide) hi) ?_
  refine sh_cp (fun w Z k => sh_aload_n dc_Sync_dequeue_13 rfl rfl k) ?_
  refine sh_cp (fun w Z k => sh_iconst (v := 0) dc_Sync_dequeue_14 (by decide) k) ?_
  refine sh_cput (K1 := (sh_u2 (sh_u2 (sp_row K s (sp_rm l t)) 5 t (-1)) 26 t 0)) (L1 := L) (10 + t) 6 dc_Sync_dequeue_15 (cw_ow (by omega)) rfl (by decide) fl_Sync_45 rfl rfl rfl rfl pd_Z rfl rfl (cq_Worker_26 (by omega)) (fun i hi => cw_upI (by decide) hi) ?_
  exact sh_ce (fun w => sh_return dc_Sync_dequeue_18 rfl (by decide) (by decide))
theorem ct_Sync_dequeue_Latch_1 {A : Nat → Nat} {K : sh_II} {L : sh_DD} {t : Nat} {s : Nat} {l : List Nat} (ht : t < 6) (hs : s < 8) (hr : cw_row K s l) (hk_s : cw_cl (K 12 s) = 6) : sh_cM A md_Sync_dequeue [.ref (A (20 + s)), .ref (A (10 + t))] K L (.inl none) (sh_u2 (sh_u2 (sp_row K s (sp_rm l t)) 5 t (-1)) 26 t 0) L := by
  refine sh_cp (fun w Z k => sh_aload_n dc_Sync_dequeue_0 rfl rfl k) ?_
  refine sh_cget (20 + s) 1 dc_Sync_dequeue_1 (cw_oa (by omega) hk_s) rfl (by decide) fl_Sync_18 rfl rfl rfl rfl ?_
  refine sh_cp (fun w Z k => sh_aload_n dc_Sync_dequeue_4 rfl rfl k) ?_
  refine sh_ccall (fun w hw => sh_virt (As := [.ref (A (10 + t))]) dc_Sync_dequeue_5 lm_Waiters_remove ln_Sync_42 wd_711 wd_23 rfl rfl (Nat.le_of_ble_eq_true rfl) (hw _ _ (cw_ot (by omega) (cw_nz hk_s (by decide)))) rfl) (cl_remove (s := s) (t := t) (l := l) (by omega) (by omega) (cw_nz hk_s (by decide)) hr) ⟨(Nat.le_of_ble_eq_true rfl), (Nat.le_of_ble_eq_true rfl), (Nat.le_of_ble_eq_true rfl), (Nat.le_of_ble_eq_true rfl)⟩ ?_
  show sh_cW _ _ (_, _, []) (sp_row K s (sp_rm l t)) L _ _ _ _ _
  refine sh_cp (fun w Z k => sh_aload_n dc_Sync_dequeue_8 rfl rfl k) ?_
  refine sh_cp (fun w Z k => sh_anull dc_Sync_dequeue_9 k) ?_
  refine sh_cput (K1 := (sh_u2 (sp_row K s (sp_rm l t)) 5 t (-1))) (L1 := L) (10 + t) 4 dc_Sync_dequeue_10 (cw_ow (by omega)) rfl (by decide) fl_Sync_26 rfl rfl rfl rfl pd_LSync rfl rfl (cq_Worker_5_null (by omega)) (fun i hi => cw_upI (by decide) hi) ?_
  refine sh_cp (fun w Z k => sh_aload_n dc_Sync_dequeue_13 rfl rfl k) ?_
  refine sh_cp (fun w Z k => sh_iconst (v := 0) dc_Sync_dequeue_14 (by decide) k) ?_
  refine sh_cput (K1 := (sh_u2 (sh_u2 (sp_row K s (sp_rm l t)) 5 t (-1)) 26 t 0)) (L1 := L) (10 + t) 6 dc_Sync_dequeue_15 (cw_ow (by omega)) rfl (by decide) fl_Sync_45 rfl rfl rfl rfl pd_Z rfl rfl (cq_Worker_26 (by omega)) (fun i hi => cw_upI (by decide) hi) ?_
  exact sh_ce (fun w => sh_return dc_Sync_dequeue_18 rfl (by decide) (by decide))
theorem ct_Sync_dequeue_Shared_1 {A : Nat → Nat} {K : sh_II} {L : sh_DD} {t : Nat} {s : Nat} {l : List Nat} (ht : t < 6) (hs : s < 8) (hr : cw_row K s l) (hk_s : cw_cl (K 12 s) = 7) : sh_cM A md_Sync_dequeue [.ref (A (20 + s)), .ref (A (10 + t))] K L (.inl none) (sh_u2 (sh_u2 (sp_row K s (sp_rm l t)) 5 t (-1)) 26 t 0) L := by
  refine sh_cp (fun w Z k => sh_aload_n dc_Sync_dequeue_0 rfl rfl k) ?_
  refine sh_cget (20 + s) 1 dc_Sync_dequeue_1 (cw_oh (by omega) hk_s) rfl (by decide) fl_Sync_18 rfl rfl rfl rfl ?_
  refine sh_cp (fun w Z k => sh_aload_n dc_Sync_dequeue_4 rfl rfl k) ?_
  refine sh_ccall (fun w hw => sh_virt (As := [.ref (A (10 + t))]) dc_Sync_dequeue_5 lm_Waiters_remove ln_Sync_42 wd_711 wd_23 rfl rfl (Nat.le_of_ble_eq_true rfl) (hw _ _ (cw_ot (by omega) (cw_nz hk_s (by decide)))) rfl) (cl_remove (s := s) (t := t) (l := l) (by omega) (by omega) (cw_nz hk_s (by decide)) hr) ⟨(Nat.le_of_ble_eq_true rfl), (Nat.le_of_ble_eq_true rfl), (Nat.le_of_ble_eq_true rfl), (Nat.le_of_ble_eq_true rfl)⟩ ?_
  show sh_cW _ _ (_, _, []) (sp_row K s (sp_rm l t)) L _ _ _ _ _
  refine sh_cp (fun w Z k => sh_aload_n dc_Sync_dequeue_8 rfl rfl k) ?_
  refine sh_cp (fun w Z k => sh_anull dc_Sync_dequeue_9 k) ?_
  refine sh_cput (K1 := (sh_u2 (sp_row K s (sp_rm l t)) 5 t (-1))) (L1 := L) (10 + t) 4 dc_Sync_dequeue_10 (cw_ow (by omega)) rfl (by decide) fl_Sync_26 rfl rfl rfl rfl pd_LSync rfl rfl (cq_Worker_5_null (by omega)) (fun i hi => cw_upI (by decide) hi) ?_
  refine sh_cp (fun w Z k => sh_aload_n dc_Sync_dequeue_13 rfl rfl k) ?_
  refine sh_cp (fun w Z k => sh_iconst (v := 0) dc_Sync_dequeue_14 (by decide) k) ?_
  refine sh_cput (K1 := (sh_u2 (sh_u2 (sp_row K s (sp_rm l t)) 5 t (-1)) 26 t 0)) (L1 := L) (10 + t) 6 dc_Sync_dequeue_15 (cw_ow (by omega)) rfl (by decide) fl_Sync_45 rfl rfl rfl rfl pd_Z rfl rfl (cq_Worker_26 (by omega)) (fun i hi => cw_upI (by decide) hi) ?_
  exact sh_ce (fun w => sh_return dc_Sync_dequeue_18 rfl (by decide) (by decide))
theorem ct_Sync_dequeue_Condition_1 {A : Nat → Nat} {K : sh_II} {L : sh_DD} {t : Nat} {s : Nat} {l : List Nat} (ht : t < 6) (hs : s < 8) (hr : cw_row K s l) (hk_s : cw_cl (K 12 s) = 8) : sh_cM A md_Sync_dequeue [.ref (A (20 + s)), .ref (A (10 + t))] K L (.inl none) (sh_u2 (sh_u2 (sp_row K s (sp_rm l t)) 5 t (-1)) 26 t 0) L := by
  refine sh_cp (fun w Z k => sh_aload_n dc_Sync_dequeue_0 rfl rfl k) ?_
  refine sh_cget (20 + s) 1 dc_Sync_dequeue_1 (cw_oc (by omega) hk_s) rfl (by decide) fl_Sync_18 rfl rfl rfl rfl ?_
  refine sh_cp (fun w Z k => sh_aload_n dc_Sync_dequeue_4 rfl rfl k) ?_
  refine sh_ccall (fun w hw => sh_virt (As := [.ref (A (10 + t))]) dc_Sync_dequeue_5 lm_Waiters_remove ln_Sync_42 wd_711 wd_23 rfl rfl (Nat.le_of_ble_eq_true rfl) (hw _ _ (cw_ot (by omega) (cw_nz hk_s (by decide)))) rfl) (cl_remove (s := s) (t := t) (l := l) (by omega) (by omega) (cw_nz hk_s (by decide)) hr) ⟨(Nat.le_of_ble_eq_true rfl), (Nat.le_of_ble_eq_true rfl), (Nat.le_of_ble_eq_true rfl), (Nat.le_of_ble_eq_true rfl)⟩ ?_
  show sh_cW _ _ (_, _, []) (sp_row K s (sp_rm l t)) L _ _ _ _ _
  refine sh_cp (fun w Z k => sh_aload_n dc_Sync_dequeue_8 rfl rfl k) ?_
  refine sh_cp (fun w Z k => sh_anull dc_Sync_dequeue_9 k) ?_
  refine sh_cput (K1 := (sh_u2 (sp_row K s (sp_rm l t)) 5 t (-1))) (L1 := L) (10 + t) 4 dc_Sync_dequeue_10 (cw_ow (by omega)) rfl (by decide) fl_Sync_26 rfl rfl rfl rfl pd_LSync rfl rfl (cq_Worker_5_null (by omega)) (fun i hi => cw_upI (by decide) hi) ?_
  refine sh_cp (fun w Z k => sh_aload_n dc_Sync_dequeue_13 rfl rfl k) ?_
  refine sh_cp (fun w Z k => sh_iconst (v := 0) dc_Sync_dequeue_14 (by decide) k) ?_
  refine sh_cput (K1 := (sh_u2 (sh_u2 (sp_row K s (sp_rm l t)) 5 t (-1)) 26 t 0)) (L1 := L) (10 + t) 6 dc_Sync_dequeue_15 (cw_ow (by omega)) rfl (by decide) fl_Sync_45 rfl rfl rfl rfl pd_Z rfl rfl (cq_Worker_26 (by omega)) (fun i hi => cw_upI (by decide) hi) ?_
  exact sh_ce (fun w => sh_return dc_Sync_dequeue_18 rfl (by decide) (by decide))
