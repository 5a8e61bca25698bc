/-- but for the order nothing has moved -/
def sp_sm (X Y : sh_II) : Prop := ∀ r : Nat, (r ≠ 22 ∧ r ≠ 23 ∧ r ≠ 25) → ∀ c : Nat, Y r c = X r c
theorem sh_nsub {x : Int32} {a d c : Nat} (h : x = nI (a + d)) (hc : c ≤ d) : x - nI c = nI (a + (d - c)) := by rw [h, show a + d = (a + (d - c)) + c by omega, ← nI_add (a + (d - c)) c]; exact Int32.add_sub_cancel _ _
theorem sp_lt6 {t : Nat} (h : t < 6) : nI t < 6 := nI_lt (b := 6) h (by decide)
theorem sp_lt8 {s : Nat} (h : s < 8) : nI s < 8 := nI_lt (b := 8) h (by decide)
theorem sp_lt11 {s : Nat} (h : s < 8) : nI (s + 3) < 11 := nI_lt (b := 11) (by omega) (by decide)
theorem nI_neN {a n : Nat} (ha : a < 2 ^ 31) (h : n < 3 ∧ ¬ a = n) : ¬ nI a = nI n := fun e => h.2 ((nI_eq ha (by omega)).mp e)
theorem mx_Mod_rank_x_1 {mq : Nat} {A : Nat → Nat} {I : sh_II} {D : sh_DD} {x : Int32} {y : UInt64} (c0_5 : x < 0) : sh_mM mq A md_Mod_rank [.ref mq, .int x, .double y] I D none (sh_u2 I 0 0 1) D := by
  refine sh_mp (fun w Z k => sh_aload_n dc_Mod_rank_0 rfl rfl k) ?_
  refine sh_mp (fun w Z k => sh_aload_n dc_Mod_rank_1 rfl rfl k) ?_
  refine sh_mp (fun w Z k => sh_iload_n dc_Mod_rank_2 rfl rfl k) ?_
  refine sh_mp (fun w Z k => sh_bipush (v := 6) dc_Mod_rank_3 (by decide) k) ?_
  refine sh_mcall (As := [.int x, .int 6]) (fun w hw => by obtain ⟨fs, hw⟩ := hw; exact sh_virt dc_Mod_rank_5 lm_Mod_out ln_Mod_82 wd_953 wd_29 rfl rfl (Nat.le_of_ble_eq_true rfl) hw rfl) (mx_Mod_out_1 (a := x) (b := 6) c0_5) ⟨(Nat.le_of_ble_eq_true rfl), (Nat.le_of_ble_eq_true rfl), (Nat.le_of_ble_eq_true rfl), (Nat.le_of_ble_eq_true rfl)⟩ ?_
  show sh_mW _ _ _ (_, _, [.int 1, .ref mq]) I D _ _ _ _ _
  refine sh_mp (fun w Z k => sh_if_ne (tgt := 27) dc_Mod_rank_8 (by decide) (fun _ => k) (fun z => absurd z (by decide))) ?_
  refine sh_mp (fun w Z k => sh_iconst (v := 1) dc_Mod_rank_27 (by decide) k) ?_
  refine sh_mp (fun w Z k => sh_goto_ (tgt := 32) dc_Mod_rank_28 (by decide) k) ?_
  refine sh_mput 0 dc_Mod_rank_32 (by decide) fl_Mod_78 rfl ?_
  refine sh_mp (fun w Z k => sh_aload_n dc_Mod_rank_35 rfl rfl k) ?_
  refine sh_mget 0 dc_Mod_rank_36 (by decide) fl_Mod_78 rfl rfl rfl rfl ?_
  refine sh_mti (show (sh_u2 I 0 0 1) 0 0 = 1 from (sh_u2_eq _ _ _ _)) ?_
  refine sh_mp (fun w Z k => sh_if_ne (tgt := 49) dc_Mod_rank_39 (by decide) (fun _ => k) (fun z => absurd z (by decide))) ?_
  exact sh_me (fun w => sh_return dc_Mod_rank_49 rfl (by decide) (by decide))
theorem mx_Mod_rank_x_2 {mq : Nat} {A : Nat → Nat} {I : sh_II} {D : sh_DD} {x : Int32} {y : UInt64} (c0_5 : ¬ x < 0) (c1_5 : x < 6) (c2_16 : (Op.cmpValue (FP.dcmp y 13875379345695965184) .l) < 0) : sh_mM mq A md_Mod_rank [.ref mq, .int x, .double y] I D none (sh_u2 I 0 0 1) D := by
  refine sh_mp (fun w Z k => sh_aload_n dc_Mod_rank_0 rfl rfl k) ?_
  refine sh_mp (fun w Z k => sh_aload_n dc_Mod_rank_1 rfl rfl k) ?_
  refine sh_mp (fun w Z k => sh_iload_n dc_Mod_rank_2 rfl rfl k) ?_
  refine sh_mp (fun w Z k => sh_bipush (v := 6) dc_Mod_rank_3 (by decide) k) ?_
  refine sh_mcall (As := [.int x, .int 6]) (fun w hw => by obtain ⟨fs, hw⟩ := hw; exact sh_virt dc_Mod_rank_5 lm_Mod_out ln_Mod_82 wd_953 wd_29 rfl rfl (Nat.le_of_ble_eq_true rfl) hw rfl) (mx_Mod_out_2 (a := x) (b := 6) c0_5 c1_5) ⟨(Nat.le_of_ble_eq_true rfl), (Nat.le_of_ble_eq_true rfl), (Nat.le_of_ble_eq_true rfl), (Nat.le_of_ble_eq_true rfl)⟩ ?_
  show sh_mW _ _ _ (_, _, [.int 0, .ref mq]) I D _ _ _ _ _
  refine sh_mp (fun w Z k => sh_if_ne (tgt := 27) dc_Mod_rank_8 (by decide) (fun z => absurd (by decide) z) (fun _ => k)) ?_
  refine sh_mp (fun w Z k => sh_dload_n dc_Mod_rank_11 rfl rfl k) ?_
  refine sh_mp (fun w Z k => sh_ldc2d (v := 13875379345695965184) dc_Mod_rank_12 wd_963 k) ?_
  refine sh_mp (fun w Z k => sh_dcmp dc_Mod_rank_15 k) ?_
  refine sh_mp (fun w Z k => sh_if_lt (tgt := 27) dc_Mod_rank_16 (by decide) (fun _ => k) (fun z => absurd c2_16 z)) ?_
  refine sh_mp (fun w Z k => sh_iconst (v := 1) dc_Mod_rank_27 (by decide) k) ?_
  refine sh_mp (fun w Z k => sh_goto_ (tgt := 32) dc_Mod_rank_28 (by decide) k) ?_
  refine sh_mput 0 dc_Mod_rank_32 (by decide) fl_Mod_78 rfl ?_
  refine sh_mp (fun w Z k => sh_aload_n dc_Mod_rank_35 rfl rfl k) ?_
  refine sh_mget 0 dc_Mod_rank_36 (by decide) fl_Mod_78 rfl rfl rfl rfl ?_
  refine sh_mti (show (sh_u2 I 0 0 1) 0 0 = 1 from (sh_u2_eq _ _ _ _)) ?_
  refine sh_mp (fun w Z k => sh_if_ne (tgt := 49) dc_Mod_rank_39 (by decide) (fun _ => k) (fun z => absurd z (by decide))) ?_
  exact sh_me (fun w => sh_return dc_Mod_rank_49 rfl (by decide) (by decide))
theorem mx_Mod_rank_x_3 {mq : Nat} {A : Nat → Nat} {I : sh_II} {D : sh_DD} {x : Int32} {y : UInt64} (c0_5 : ¬ x < 0) (c1_5 : x < 6) (c2_16 : ¬ (Op.cmpValue (FP.dcmp y 13875379345695965184) .l) < 0) (c3_24 : ¬ (Op.cmpValue (FP.dcmp y 4652007308841189376) .g) ≤ 0) : sh_mM mq A md_Mod_rank [.ref mq, .int x, .double y] I D none (sh_u2 I 0 0 1) D := by
  refine sh_mp (fun w Z k => sh_aload_n dc_Mod_rank_0 rfl rfl k) ?_
  refine sh_mp (fun w Z k => sh_aload_n dc_Mod_rank_1 rfl rfl k) ?_
  refine sh_mp (fun w Z k => sh_iload_n dc_Mod_rank_2 rfl rfl k) ?_
  refine sh_mp (fun w Z k => sh_bipush (v := 6) dc_Mod_rank_3 (by decide) k) ?_
  refine sh_mcall (As := [.int x, .int 6]) (fun w hw => by obtain ⟨fs, hw⟩ := hw; exact sh_virt dc_Mod_rank_5 lm_Mod_out ln_Mod_82 wd_953 wd_29 rfl rfl (Nat.le_of_ble_eq_true rfl) hw rfl) (mx_Mod_out_2 (a := x) (b := 6) c0_5 c1_5) ⟨(Nat.le_of_ble_eq_true rfl), (Nat.le_of_ble_eq_true rfl), (Nat.le_of_ble_eq_true rfl), (Nat.le_of_ble_eq_true rfl)⟩ ?_
  show sh_mW _ _ _ (_, _, [.int 0, .ref mq]) I D _ _ _ _ _
  refine sh_mp (fun w Z k => sh_if_ne (tgt := 27) dc_Mod_rank_8 (by decide) (fun z => absurd (by decide) z) (fun _ => k)) ?_
  refine sh_mp (fun w Z k => sh_dload_n dc_Mod_rank_11 rfl rfl k) ?_
  refine sh_mp (fun w Z k => sh_ldc2d (v := 13875379345695965184) dc_Mod_rank_12 wd_963 k) ?_
  refine sh_mp (fun w Z k => sh_dcmp dc_Mod_rank_15 k) ?_
  refine sh_mp (fun w Z k => sh_if_lt (tgt := 27) dc_Mod_rank_16 (by decide) (fun z => absurd z c2_16) (fun _ => k)) ?_
  refine sh_mp (fun w Z k => sh_dload_n dc_Mod_rank_19 rfl rfl k) ?_
  refine sh_mp (fun w Z k => sh_ldc2d (v := 4652007308841189376) dc_Mod_rank_20 wd_964 k) ?_
  refine sh_mp (fun w Z k => sh_dcmp dc_Mod_rank_23 k) ?_
  refine sh_mp (fun w Z k => sh_if_le (tgt := 31) dc_Mod_rank_24 (by decide) (fun z => absurd z c3_24) (fun _ => k)) ?_
  refine sh_mp (fun w Z k => sh_iconst (v := 1) dc_Mod_rank_27 (by decide) k) ?_
  refine sh_mp (fun w Z k => sh_goto_ (tgt := 32) dc_Mod_rank_28 (by decide) k) ?_
  refine sh_mput 0 dc_Mod_rank_32 (by decide) fl_Mod_78 rfl ?_
  refine sh_mp (fun w Z k => sh_aload_n dc_Mod_rank_35 rfl rfl k) ?_
  refine sh_mget 0 dc_Mod_rank_36 (by decide) fl_Mod_78 rfl rfl rfl rfl ?_
  refine sh_mti (show (sh_u2 I 0 0 1) 0 0 = 1 from (sh_u2_eq _ _ _ _)) ?_
  refine sh_mp (fun w Z k => sh_if_ne (tgt := 49) dc_Mod_rank_39 (by decide) (fun _ => k) (fun z => absurd z (by decide))) ?_
  exact sh_me (fun w => sh_return dc_Mod_rank_49 rfl (by decide) (by decide))
theorem mx_Mod_rank_x_4 {mq : Nat} {A : Nat → Nat} {I : sh_II} {D : sh_DD} {x : Int32} {y : UInt64} (c0_5 : ¬ x < 0) (c1_5 : ¬ x < 6) : sh_mM mq A md_Mod_rank [.ref mq, .int x, .double y] I D none (sh_u2 I 0 0 1) D := by
  refine sh_mp (fun w Z k => sh_aload_n dc_Mod_rank_0 rfl rfl k) ?_
  refine sh_mp (fun w Z k => sh_aload_n dc_Mod_rank_1 rfl rfl k) ?_
  refine sh_mp (fun w Z k => sh_iload_n dc_Mod_rank_2 rfl rfl k) ?_
  refine sh_mp (fun w Z k => sh_bipush (v := 6) dc_Mod_rank_3 (by decide) k) ?_
  refine sh_mcall (As := [.int x, .int 6]) (fun w hw => by obtain ⟨fs, hw⟩ := hw; exact sh_virt dc_Mod_rank_5 lm_Mod_out ln_Mod_82 wd_953 wd_29 rfl rfl (Nat.le_of_ble_eq_true rfl) hw rfl) (mx_Mod_out_3 (a := x) (b := 6) c0_5 c1_5) ⟨(Nat.le_of_ble_eq_true rfl), (Nat.le_of_ble_eq_true rfl), (Nat.le_of_ble_eq_true rfl), (Nat.le_of_ble_eq_true rfl)⟩ ?_
  show sh_mW _ _ _ (_, _, [.int 1, .ref mq]) I D _ _ _ _ _
  refine sh_mp (fun w Z k => sh_if_ne (tgt := 27) dc_Mod_rank_8 (by decide) (fun _ => k) (fun z => absurd z (by decide))) ?_
  refine sh_mp (fun w Z k => sh_iconst (v := 1) dc_Mod_rank_27 (by decide) k) ?_
  refine sh_mp (fun w Z k => sh_goto_ (tgt := 32) dc_Mod_rank_28 (by decide) k) ?_
  refine sh_mput 0 dc_Mod_rank_32 (by decide) fl_Mod_78 rfl ?_
  refine sh_mp (fun w Z k => sh_aload_n dc_Mod_rank_35 rfl rfl k) ?_
  refine sh_mget 0 dc_Mod_rank_36 (by decide) fl_Mod_78 rfl rfl rfl rfl ?_
  refine sh_mti (show (sh_u2 I 0 0 1) 0 0 = 1 from (sh_u2_eq _ _ _ _)) ?_
  refine sh_mp (fun w Z k => sh_if_ne (tgt := 49) dc_Mod_rank_39 (by decide) (fun _ => k) (fun z => absurd z (by decide))) ?_
  exact sh_me (fun w => sh_return dc_Mod_rank_49 rfl (by decide) (by decide))
theorem mx_Mod_rank_1 {mq : Nat} {A : Nat → Nat} {I : sh_II} {D : sh_DD} {t : Nat} {y : UInt64} (ht : t < 6) (c0_16 : (Op.cmpValue (FP.dcmp y 13875379345695965184) .l) < 0) : sh_mM mq A md_Mod_rank [.ref mq, .int (nI t), .double y] I D none (sh_u2 I 0 0 1) D := by
  refine sh_mp (fun w Z k => sh_aload_n dc_Mod_rank_0 rfl rfl k) ?_
  refine sh_mp (fun w Z k => sh_aload_n dc_Mod_rank_1 rfl rfl k) ?_
  refine sh_mp (fun w Z k => sh_iload_n dc_Mod_rank_2 rfl rfl k) ?_
  refine sh_mp (fun w Z k => sh_bipush (v := 6) dc_Mod_rank_3 (by decide) k) ?_
  refine sh_mcall (As := [.int (nI t), .int 6]) (fun w hw => by obtain ⟨fs, hw⟩ := hw; exact sh_virt dc_Mod_rank_5 lm_Mod_out ln_Mod_82 wd_953 wd_29 rfl rfl (Nat.le_of_ble_eq_true rfl) hw rfl) (mx_Mod_out_2 (a := nI t) (b := 6) (nI_pos (by omega)) (sp_lt6 ht)) ⟨(Nat.le_of_ble_eq_true rfl), (Nat.le_of_ble_eq_true rfl), (Nat.le_of_ble_eq_true rfl), (Nat.le_of_ble_eq_true rfl)⟩ ?_
  show sh_mW _ _ _ (_, _, [.int 0, .ref mq]) I D _ _ _ _ _
  refine sh_mp (fun w Z k => sh_if_ne (tgt := 27) dc_Mod_rank_8 (by decide) (fun z => absurd (by decide) z) (fun _ => k)) ?_
  refine sh_mp (fun w Z k => sh_dload_n dc_Mod_rank_11 rfl rfl k) ?_
  refine sh_mp (fun w Z k => sh_ldc2d (v := 13875379345695965184) dc_Mod_rank_12 wd_963 k) ?_
  refine sh_mp (fun w Z k => sh_dcmp dc_Mod_rank_15 k) ?_
  refine sh_mp (fun w Z k => sh_if_lt (tgt := 27) dc_Mod_rank_16 (by decide) (fun _ => k) (fun z => absurd c0_16 z)) ?_
  refine sh_mp (fun w Z k => sh_iconst (v := 1) dc_Mod_rank_27 (by decide) k) ?_
  refine sh_mp (fun w Z k => sh_goto_ (tgt := 32) dc_Mod_rank_28 (by decide) k) ?_
  refine sh_mput 0 dc_Mod_rank_32 (by decide) fl_Mod_78 rfl ?_
  refine sh_mp (fun w Z k => sh_aload_n dc_Mod_rank_35 rfl rfl k) ?_
  refine sh_mget 0 dc_Mod_rank_36 (by decide) fl_Mod_78 rfl rfl rfl rfl ?_
  refine sh_mti (show (sh_u2 I 0 0 1) 0 0 = 1 from (sh_u2_eq _ _ _ _)) ?_
  refine sh_mp (fun w Z k => sh_if_ne (tgt := 49) dc_Mod_rank_39 (by decide) (fun _ => k) (fun z => absurd z (by decide))) ?_
  exact sh_me (fun w => sh_return dc_Mod_rank_49 rfl (by decide) (by decide))
theorem mx_Mod_rank_2 {mq : Nat} {A : Nat → Nat} {I : sh_II} {D : sh_DD} {t : Nat} {y : UInt64} (ht : t < 6) (c0_16 : ¬ (Op.cmpValue (FP.dcmp y 13875379345695965184) .l) < 0) (c1_24 : (Op.cmpValue (FP.dcmp y 4652007308841189376) .g) ≤ 0) : sh_mM mq A md_Mod_rank [.ref mq, .int (nI t), .double y] I D none (sh_u2 I 0 0 0) (sh_u2 D 3 t y) := by
  refine sh_mp (fun w Z k => sh_aload_n dc_Mod_rank_0 rfl rfl k) ?_
  refine sh_mp (fun w Z k => sh_aload_n dc_Mod_rank_1 rfl rfl k) ?_
  refine sh_mp (fun w Z k => sh_iload_n dc_Mod_rank_2 rfl rfl k) ?_
  refine sh_mp (fun w Z k => sh_bipush (v := 6) dc_Mod_rank_3 (by decide) k) ?_
  refine sh_mcall (As := [.int (nI t), .int 6]) (fun w hw => by obtain ⟨fs, hw⟩ := hw; exact sh_virt dc_Mod_rank_5 lm_Mod_out ln_Mod_82 wd_953 wd_29 rfl rfl (Nat.le_of_ble_eq_true rfl) hw rfl) (mx_Mod_out_2 (a := nI t) (b := 6) (nI_pos (by omega)) (sp_lt6 ht)) ⟨(Nat.le_of_ble_eq_true rfl), (Nat.le_of_ble_eq_true rfl), (Nat.le_of_ble_eq_true rfl), (Nat.le_of_ble_eq_true rfl)⟩ ?_
  show sh_mW _ _ _ (_, _, [.int 0, .ref mq]) I D _ _ _ _ _
  refine sh_mp (fun w Z k => sh_if_ne (tgt := 27) dc_Mod_rank_8 (by decide) (fun z => absurd (by decide) z) (fun _ => k)) ?_
  refine sh_mp (fun w Z k => sh_dload_n dc_Mod_rank_11 rfl rfl k) ?_
  refine sh_mp (fun w Z k => sh_ldc2d (v := 13875379345695965184) dc_Mod_rank_12 wd_963 k) ?_
  refine sh_mp (fun w Z k => sh_dcmp dc_Mod_rank_15 k) ?_
  refine sh_mp (fun w Z k => sh_if_lt (tgt := 27) dc_Mod_rank_16 (by decide) (fun z => absurd z c0_16) (fun _ => k)) ?_
  refine sh_mp (fun w Z k => sh_dload_n dc_Mod_rank_19 rfl rfl k) ?_
  refine sh_mp (fun w Z k => sh_ldc2d (v := 4652007308841189376) dc_Mod_rank_20 wd_964 k) ?_
  refine sh_mp (fun w Z k => sh_dcmp dc_Mod_rank_23 k) ?_
  refine sh_mp (fun w Z k => sh_if_le (tgt := 31) dc_Mod_rank_24 (by decide) (fun _ => k) (fun z => absurd c1_24 z)) ?_
  refine sh_mp (fun w Z k => sh_iconst (v := 0) dc_Mod_rank_31 (by decide) k) ?_
  refine sh_mput 0 dc_Mod_rank_32 (by decide) fl_Mod_78 rfl ?_
  refine sh_mp (fun w Z k => sh_aload_n dc_Mod_rank_35 rfl rfl k) ?_
  refine sh_mget 0 dc_Mod_rank_36 (by decide) fl_Mod_78 rfl rfl rfl rfl ?_
  refine sh_mti (show (sh_u2 I 0 0 0) 0 0 = 0 from (sh_u2_eq _ _ _ _)) ?_
  refine sh_mp (fun w Z k => sh_if_ne (tgt := 49) dc_Mod_rank_39 (by decide) (fun z => absurd (by decide) z) (fun _ => k)) ?_
  refine sh_mp (fun w Z k => sh_aload_n dc_Mod_rank_42 rfl rfl k) ?_
  refine sh_mget 3 dc_Mod_rank_43 (by decide) fl_Mod_16 rfl rfl rfl rfl ?_
  refine sh_mp (fun w Z k => sh_iload_n dc_Mod_rank_46 rfl rfl k) ?_
  refine sh_mp (fun w Z k => sh_dload_n dc_Mod_rank_47 rfl rfl k) ?_
  refine sh_mdast 3 (l := 6) (k := t) dc_Mod_rank_48 (by decide) rfl (by omega) (by decide) ?_
  exact sh_me (fun w => sh_return dc_Mod_rank_49 rfl (by decide) (by decide))
theorem mx_Mod_rank_3 {mq : Nat} {A : Nat → Nat} {I : sh_II} {D : sh_DD} {t : Nat} {y : UInt64} (ht : t < 6) (c0_16 : ¬ (Op.cmpValue (FP.dcmp y 13875379345695965184) .l) < 0) (c1_24 : ¬ (Op.cmpValue (FP.dcmp y 4652007308841189376) .g) ≤ 0) : sh_mM mq A md_Mod_rank [.ref mq, .int (nI t), .double y] I D none (sh_u2 I 0 0 1) D := by
  refine sh_mp (fun w Z k => sh_aload_n dc_Mod_rank_0 rfl rfl k) ?_
  refine sh_mp (fun w Z k => sh_aload_n dc_Mod_rank_1 rfl rfl k) ?_
  refine sh_mp (fun w Z k => sh_iload_n dc_Mod_rank_2 rfl rfl k) ?_
  refine sh_mp (fun w Z k => sh_bipush (v := 6) dc_Mod_rank_3 (by decide) k) ?_
  refine sh_mcall (As := [.int (nI t), .int 6]) (fun w hw => by obtain ⟨fs, hw⟩ := hw; exact sh_virt dc_Mod_rank_5 lm_Mod_out ln_Mod_82 wd_953 wd_29 rfl rfl (Nat.le_of_ble_eq_true rfl) hw rfl) (mx_Mod_out_2 (a := nI t) (b := 6) (nI_pos (by omega)) (sp_lt6 ht)) ⟨(Nat.le_of_ble_eq_true rfl), (Nat.le_of_ble_eq_true rfl), (Nat.le_of_ble_eq_true rfl), (Nat.le_of_ble_eq_true rfl)⟩ ?_
  show sh_mW _ _ _ (_, _, [.int 0, .ref mq]) I D _ _ _ _ _
  refine sh_mp (fun w Z k => sh_if_ne (tgt := 27) dc_Mod_rank_8 (by decide) (fun z => absurd (by decide) z) (fun _ => k)) ?_
  refine sh_mp (fun w Z k => sh_dload_n dc_Mod_rank_11 rfl rfl k) ?_
  refine sh_mp (fun w Z k => sh_ldc2d (v := 13875379345695965184) dc_Mod_rank_12 wd_963 k) ?_
  refine sh_mp (fun w Z k => sh_dcmp dc_Mod_rank_15 k) ?_
  refine sh_mp (fun w Z k => sh_if_lt (tgt := 27) dc_Mod_rank_16 (by decide) (fun z => absurd z c0_16) (fun _ => k)) ?_
  refine sh_mp (fun w Z k => sh_dload_n dc_Mod_rank_19 rfl rfl k) ?_
  refine sh_mp (fun w Z k => sh_ldc2d (v := 4652007308841189376) dc_Mod_rank_20 wd_964 k) ?_
  refine sh_mp (fun w Z k => sh_dcmp dc_Mod_rank_23 k) ?_
  refine sh_mp (fun w Z k => sh_if_le (tgt := 31) dc_Mod_rank_24 (by decide) (fun z => absurd z c1_24) (fun _ => k)) ?_
  refine sh_mp (fun w Z k => sh_iconst (v := 1) dc_Mod_rank_27 (by decide) k) ?_
  refine sh_mp (fun w Z k => sh_goto_ (tgt := 32) dc_Mod_rank_28 (by decide) k) ?_
  refine sh_mput 0 dc_Mod_rank_32 (by decide) fl_Mod_78 rfl ?_
  refine sh_mp (fun w Z k => sh_aload_n dc_Mod_rank_35 rfl rfl k) ?_
  refine sh_mget 0 dc_Mod_rank_36 (by decide) fl_Mod_78 rfl rfl rfl rfl ?_
  refine sh_mti (show (sh_u2 I 0 0 1) 0 0 = 1 from (sh_u2_eq _ _ _ _)) ?_
  refine sh_mp (fun w Z k => sh_if_ne (tgt := 49) dc_Mod_rank_39 (by decide) (fun _ => k) (fun z => absurd z (by decide))) ?_
  exact sh_me (fun w => sh_return dc_Mod_rank_49 rfl (by decide) (by decide))
theorem mx_Mod_policy_1 {mq : Nat} {A : Nat → Nat} {I : sh_II} {D : sh_DD} {x : Int32} (c0_8 : x < 0) : sh_mM mq A md_Mod_policy [.ref mq, .int x] I D (some (.int 0)) (sh_u2 (sh_u2 I 0 0 0) 0 0 1) D := by
  refine sh_mp (fun w Z k => sh_aload_n dc_Mod_policy_0 rfl rfl k) ?_
  refine sh_mp (fun w Z k => sh_iconst (v := 0) dc_Mod_policy_1 (by decide) k) ?_
  refine sh_mput 0 dc_Mod_policy_2 (by decide) fl_Mod_78 rfl ?_
  refine sh_mp (fun w Z k => sh_aload_n dc_Mod_policy_5 rfl rfl k) ?_
  refine sh_mp (fun w Z k => sh_iload_n dc_Mod_policy_6 rfl rfl k) ?_
  refine sh_mp (fun w Z k => sh_iconst (v := 3) dc_Mod_policy_7 (by decide) k) ?_
  refine sh_mcall (As := [.int x, .int 3]) (fun w hw => by obtain ⟨fs, hw⟩ := hw; exact sh_virt dc_Mod_policy_8 lm_Mod_out ln_Mod_82 wd_953 wd_29 rfl rfl (Nat.le_of_ble_eq_true rfl) hw rfl) (mx_Mod_out_1 (a := x) (b := 3) c0_8) ⟨(Nat.le_of_ble_eq_true rfl), (Nat.le_of_ble_eq_true rfl), (Nat.le_of_ble_eq_true rfl), (Nat.le_of_ble_eq_true rfl)⟩ ?_
  show sh_mW _ _ _ (_, _, [.int 1]) (sh_u2 I 0 0 0) D _ _ _ _ _
  refine sh_mp (fun w Z k => sh_if_eq (tgt := 20) dc_Mod_policy_11 (by decide) (fun z => absurd z (by decide)) (fun _ => k)) ?_
  refine sh_mp (fun w Z k => sh_aload_n dc_Mod_policy_14 rfl rfl k) ?_
  refine sh_mp (fun w Z k => sh_iconst (v := 1) dc_Mod_policy_15 (by decide) k) ?_
  refine sh_mcall (As := [.int 1]) (fun w hw => by obtain ⟨fs, hw⟩ := hw; exact sh_virt dc_Mod_policy_16 lm_Mod_fail ln_Mod_86 wd_957 wd_30 rfl rfl (Nat.le_of_ble_eq_true rfl) hw rfl) (mx_Mod_fail_1 (c := 1)) ⟨(Nat.le_of_ble_eq_true rfl), (Nat.le_of_ble_eq_true rfl), (Nat.le_of_ble_eq_true rfl), (Nat.le_of_ble_eq_true rfl)⟩ ?_
  show sh_mW _ _ _ (_, _, [.int 0]) (sh_u2 (sh_u2 I 0 0 0) 0 0 1) D _ _ _ _ _
  exact sh_me (fun w => sh_ireturn dc_Mod_policy_19 rfl rfl (by decide) (by decide))
theorem mx_Mod_policy_2 {mq : Nat} {A : Nat → Nat} {I : sh_II} {D : sh_DD} {x : Int32} (c0_8 : ¬ x < 0) (c1_8 : x < 3) : sh_mM mq A md_Mod_policy [.ref mq, .int x] I D (some (.int (I 25 0))) (sh_u2 (sh_u2 I 0 0 0) 24 0 x) D := by
  refine sh_mp (fun w Z k => sh_aload_n dc_Mod_policy_0 rfl rfl k) ?_
  refine sh_mp (fun w Z k => sh_iconst (v := 0) dc_Mod_policy_1 (by decide) k) ?_
  refine sh_mput 0 dc_Mod_policy_2 (by decide) fl_Mod_78 rfl ?_
  refine sh_mp (fun w Z k => sh_aload_n dc_Mod_policy_5 rfl rfl k) ?_
  refine sh_mp (fun w Z k => sh_iload_n dc_Mod_policy_6 rfl rfl k) ?_
  refine sh_mp (fun w Z k => sh_iconst (v := 3) dc_Mod_policy_7 (by decide) k) ?_
  refine sh_mcall (As := [.int x, .int 3]) (fun w hw => by obtain ⟨fs, hw⟩ := hw; exact sh_virt dc_Mod_policy_8 lm_Mod_out ln_Mod_82 wd_953 wd_29 rfl rfl (Nat.le_of_ble_eq_true rfl) hw rfl) (mx_Mod_out_2 (a := x) (b := 3) c0_8 c1_8) ⟨(Nat.le_of_ble_eq_true rfl), (Nat.le_of_ble_eq_true rfl), (Nat.le_of_ble_eq_true rfl), (Nat.le_of_ble_eq_true rfl)⟩ ?_
  show sh_mW _ _ _ (_, _, [.int 0]) (sh_u2 I 0 0 0) D _ _ _ _ _
  refine sh_mp (fun w Z k => sh_if_eq (tgt := 20) dc_Mod_policy_11 (by decide) (fun _ => k) (fun z => absurd (by decide) z)) ?_
  refine sh_mp (fun w Z k => sh_aload_n dc_Mod_policy_20 rfl rfl k) ?_
  refine sh_mp (fun w Z k => sh_iload_n dc_Mod_policy_21 rfl rfl k) ?_
  refine sh_mput 24 dc_Mod_policy_22 (by decide) fl_Mod_125 rfl ?_
  refine sh_mp (fun w Z k => sh_aload_n dc_Mod_policy_25 rfl rfl k) ?_
  refine sh_mget 25 dc_Mod_policy_26 (by decide) fl_Mod_135 rfl rfl rfl rfl ?_
  refine sh_mti (show (sh_u2 (sh_u2 I 0 0 0) 24 0 x) 25 0 = I 25 0 from (Eq.trans (sh_u2_row (by decide) _) (sh_u2_row (by decide) _))) ?_
  exact sh_me (fun w => sh_ireturn dc_Mod_policy_29 rfl rfl (by decide) (by decide))
theorem mx_Mod_policy_3 {mq : Nat} {A : Nat → Nat} {I : sh_II} {D : sh_DD} {x : Int32} (c0_8 : ¬ x < 0) (c1_8 : ¬ x < 3) : sh_mM mq A md_Mod_policy [.ref mq, .int x] I D (some (.int 0)) (sh_u2 (sh_u2 I 0 0 0) 0 0 1) D := by
  refine sh_mp (fun w Z k => sh_aload_n dc_Mod_policy_0 rfl rfl k) ?_
  refine sh_mp (fun w Z k => sh_iconst (v := 0) dc_Mod_policy_1 (by decide) k) ?_
  refine sh_mput 0 dc_Mod_policy_2 (by decide) fl_Mod_78 rfl ?_
  refine sh_mp (fun w Z k => sh_aload_n dc_Mod_policy_5 rfl rfl k) ?_
  refine sh_mp (fun w Z k => sh_iload_n dc_Mod_policy_6 rfl rfl k) ?_
  refine sh_mp (fun w Z k => sh_iconst (v := 3) dc_Mod_policy_7 (by decide) k) ?_
  refine sh_mcall (As := [.int x, .int 3]) (fun w hw => by obtain ⟨fs, hw⟩ := hw; exact sh_virt dc_Mod_policy_8 lm_Mod_out ln_Mod_82 wd_953 wd_29 rfl rfl (Nat.le_of_ble_eq_true rfl) hw rfl) (mx_Mod_out_3 (a := x) (b := 3) c0_8 c1_8) ⟨(Nat.le_of_ble_eq_true rfl), (Nat.le_of_ble_eq_true rfl), (Nat.le_of_ble_eq_true rfl), (Nat.le_of_ble_eq_true rfl)⟩ ?_
  show sh_mW _ _ _ (_, _, [.int 1]) (sh_u2 I 0 0 0) D _ _ _ _ _
  refine sh_mp (fun w Z k => sh_if_eq (tgt := 20) dc_Mod_policy_11 (by decide) (fun z => absurd z (by decide)) (fun _ => k)) ?_
  refine sh_mp (fun w Z k => sh_aload_n dc_Mod_policy_14 rfl rfl k) ?_
  refine sh_mp (fun w Z k => sh_iconst (v := 1) dc_Mod_policy_15 (by decide) k) ?_
  refine sh_mcall (As := [.int 1]) (fun w hw => by obtain ⟨fs, hw⟩ := hw; exact sh_virt dc_Mod_policy_16 lm_Mod_fail ln_Mod_86 wd_957 wd_30 rfl rfl (Nat.le_of_ble_eq_true rfl) hw rfl) (mx_Mod_fail_1 (c := 1)) ⟨(Nat.le_of_ble_eq_true rfl), (Nat.le_of_ble_eq_true rfl), (Nat.le_of_ble_eq_true rfl), (Nat.le_of_ble_eq_true rfl)⟩ ?_
  show sh_mW _ _ _ (_, _, [.int 0]) (sh_u2 (sh_u2 I 0 0 0) 0 0 1) D _ _ _ _ _
  exact sh_me (fun w => sh_ireturn dc_Mod_policy_19 rfl rfl (by decide) (by decide))
theorem mx_Mod_thread_x_1 {mq : Nat} {A : Nat → Nat} {I : sh_II} {D : sh_DD} {x : Int32} {o : Int32} (c0_9 : x < 0) : sh_mM mq A md_Mod_thread [.ref mq, .int x, .int o] I D (some (.int 0)) (sh_u2 (sh_u2 I 0 0 0) 0 0 1) D := by
  refine sh_mp (fun w Z k => sh_aload_n dc_Mod_thread_0 rfl rfl k) ?_
  refine sh_mp (fun w Z k => sh_iconst (v := 0) dc_Mod_thread_1 (by decide) k) ?_
  refine sh_mput 0 dc_Mod_thread_2 (by decide) fl_Mod_78 rfl ?_
  refine sh_mp (fun w Z k => sh_aload_n dc_Mod_thread_5 rfl rfl k) ?_
  refine sh_mp (fun w Z k => sh_iload_n dc_Mod_thread_6 rfl rfl k) ?_
  refine sh_mp (fun w Z k => sh_bipush (v := 6) dc_Mod_thread_7 (by decide) k) ?_
  refine sh_mcall (As := [.int x, .int 6]) (fun w hw => by obtain ⟨fs, hw⟩ := hw; exact sh_virt dc_Mod_thread_9 lm_Mod_out ln_Mod_82 wd_953 wd_29 rfl rfl (Nat.le_of_ble_eq_true rfl) hw rfl) (mx_Mod_out_1 (a := x) (b := 6) c0_9) ⟨(Nat.le_of_ble_eq_true rfl), (Nat.le_of_ble_eq_true rfl), (Nat.le_of_ble_eq_true rfl), (Nat.le_of_ble_eq_true rfl)⟩ ?_
  show sh_mW _ _ _ (_, _, [.int 1]) (sh_u2 I 0 0 0) D _ _ _ _ _
  refine sh_mp (fun w Z k => sh_if_ne (tgt := 25) dc_Mod_thread_12 (by decide) (fun _ => k) (fun z => absurd z (by decide))) ?_
  refine sh_mp (fun w Z k => sh_aload_n dc_Mod_thread_25 rfl rfl k) ?_
  refine sh_mp (fun w Z k => sh_iconst (v := 1) dc_Mod_thread_26 (by decide) k) ?_
  refine sh_mcall (As := [.int 1]) (fun w hw => by obtain ⟨fs, hw⟩ := hw; exact sh_virt dc_Mod_thread_27 lm_Mod_fail ln_Mod_86 wd_957 wd_30 rfl rfl (Nat.le_of_ble_eq_true rfl) hw rfl) (mx_Mod_fail_1 (c := 1)) ⟨(Nat.le_of_ble_eq_true rfl), (Nat.le_of_ble_eq_true rfl), (Nat.le_of_ble_eq_true rfl), (Nat.le_of_ble_eq_true rfl)⟩ ?_
  show sh_mW _ _ _ (_, _, [.int 0]) (sh_u2 (sh_u2 I 0 0 0) 0 0 1) D _ _ _ _ _
  exact sh_me (fun w => sh_ireturn dc_Mod_thread_30 rfl rfl (by decide) (by decide))
theorem mx_Mod_thread_x_2 {mq : Nat} {A : Nat → Nat} {I : sh_II} {D : sh_DD} {x : Int32} {o : Int32} (c0_9 : ¬ x < 0) (c1_9 : x < 6) (c2_19 : o < 0) : sh_mM mq A md_Mod_thread [.ref mq, .int x, .int o] I D (some (.int 0)) (sh_u2 (sh_u2 I 0 0 0) 0 0 1) D := by
  refine sh_mp (fun w Z k => sh_aload_n dc_Mod_thread_0 rfl rfl k) ?_
  refine sh_mp (fun w Z k => sh_iconst (v := 0) dc_Mod_thread_1 (by decide) k) ?_
  refine sh_mput 0 dc_Mod_thread_2 (by decide) fl_Mod_78 rfl ?_
  refine sh_mp (fun w Z k => sh_aload_n dc_Mod_thread_5 rfl rfl k) ?_
  refine sh_mp (fun w Z k => sh_iload_n dc_Mod_thread_6 rfl rfl k) ?_
  refine sh_mp (fun w Z k => sh_bipush (v := 6) dc_Mod_thread_7 (by decide) k) ?_
  refine sh_mcall (As := [.int x, .int 6]) (fun w hw => by obtain ⟨fs, hw⟩ := hw; exact sh_virt dc_Mod_thread_9 lm_Mod_out ln_Mod_82 wd_953 wd_29 rfl rfl (Nat.le_of_ble_eq_true rfl) hw rfl) (mx_Mod_out_2 (a := x) (b := 6) c0_9 c1_9) ⟨(Nat.le_of_ble_eq_true rfl), (Nat.le_of_ble_eq_true rfl), (Nat.le_of_ble_eq_true rfl), (Nat.le_of_ble_eq_true rfl)⟩ ?_
  show sh_mW _ _ _ (_, _, [.int 0]) (sh_u2 I 0 0 0) D _ _ _ _ _
  refine sh_mp (fun w Z k => sh_if_ne (tgt := 25) dc_Mod_thread_12 (by decide) (fun z => absurd (by decide) z) (fun _ => k)) ?_
  refine sh_mp (fun w Z k => sh_aload_n dc_Mod_thread_15 rfl rfl k) ?_
  refine sh_mp (fun w Z k => sh_iload_n dc_Mod_thread_16 rfl rfl k) ?_
  refine sh_mp (fun w Z k => sh_bipush (v := 11) dc_Mod_thread_17 (by decide) k) ?_
  refine sh_mcall (As := [.int o, .int 11]) (fun w hw => by obtain ⟨fs, hw⟩ := hw; exact sh_virt dc_Mod_thread_19 lm_Mod_out ln_Mod_82 wd_953 wd_29 rfl rfl (Nat.le_of_ble_eq_true rfl) hw rfl) (mx_Mod_out_1 (a := o) (b := 11) c2_19) ⟨(Nat.le_of_ble_eq_true rfl), (Nat.le_of_ble_eq_true rfl), (Nat.le_of_ble_eq_true rfl), (Nat.le_of_ble_eq_true rfl)⟩ ?_
  show sh_mW _ _ _ (_, _, [.int 1]) (sh_u2 I 0 0 0) D _ _ _ _ _
  refine sh_mp (fun w Z k => sh_if_eq (tgt := 31) dc_Mod_thread_22 (by decide) (fun z => absurd z (by decide)) (fun _ => k)) ?_
  refine sh_mp (fun w Z k => sh_aload_n dc_Mod_thread_25 rfl rfl k) ?_
  refine sh_mp (fun w Z k => sh_iconst (v := 1) dc_Mod_thread_26 (by decide) k) ?_
  refine sh_mcall (As := [.int 1]) (fun w hw => by obtain ⟨fs, hw⟩ := hw; exact sh_virt dc_Mod_thread_27 lm_Mod_fail ln_Mod_86 wd_957 wd_30 rfl rfl (Nat.le_of_ble_eq_true rfl) hw rfl) (mx_Mod_fail_1 (c := 1)) ⟨(Nat.le_of_ble_eq_true rfl), (Nat.le_of_ble_eq_true rfl), (Nat.le_of_ble_eq_true rfl), (Nat.le_of_ble_eq_true rfl)⟩ ?_
  show sh_mW _ _ _ (_, _, [.int 0]) (sh_u2 (sh_u2 I 0 0 0) 0 0 1) D _ _ _ _ _
  exact sh_me (fun w => sh_ireturn dc_Mod_thread_30 rfl rfl (by decide) (by decide))
theorem mx_Mod_thread_x_3 {mq : Nat} {A : Nat → Nat} {I : sh_II} {D : sh_DD} {x : Int32} {o : Int32} (c0_9 : ¬ x < 0) (c1_9 : x < 6) (c2_19 : ¬ o < 0) (c3_19 : ¬ o < 11) : sh_mM mq A md_Mod_thread [.ref mq, .int x, .int o] I D (some (.int 0)) (sh_u2 (sh_u2 I 0 0 0) 0 0 1) D := by
  refine sh_mp (fun w Z k => sh_aload_n dc_Mod_thread_0 rfl rfl k) ?_
  refine sh_mp (fun w Z k => sh_iconst (v := 0) dc_Mod_thread_1 (by decide) k) ?_
  refine sh_mput 0 dc_Mod_thread_2 (by decide) fl_Mod_78 rfl ?_
  refine sh_mp (fun w Z k => sh_aload_n dc_Mod_thread_5 rfl rfl k) ?_
  refine sh_mp (fun w Z k => sh_iload_n dc_Mod_thread_6 rfl rfl k) ?_
  refine sh_mp (fun w Z k => sh_bipush (v := 6) dc_Mod_thread_7 (by decide) k) ?_
  refine sh_mcall (As := [.int x, .int 6]) (fun w hw => by obtain ⟨fs, hw⟩ := hw; exact sh_virt dc_Mod_thread_9 lm_Mod_out ln_Mod_82 wd_953 wd_29 rfl rfl (Nat.le_of_ble_eq_true rfl) hw rfl) (mx_Mod_out_2 (a := x) (b := 6) c0_9 c1_9) ⟨(Nat.le_of_ble_eq_true rfl), (Nat.le_of_ble_eq_true rfl), (Nat.le_of_ble_eq_true rfl), (Nat.le_of_ble_eq_true rfl)⟩ ?_
  show sh_mW _ _ _ (_, _, [.int 0]) (sh_u2 I 0 0 0) D _ _ _ _ _
  refine sh_mp (fun w Z k => sh_if_ne (tgt := 25) dc_Mod_thread_12 (by decide) (fun z => absurd (by decide) z) (fun _ => k)) ?_
  refine sh_mp (fun w Z k => sh_aload_n dc_Mod_thread_15 rfl rfl k) ?_
  refine sh_mp (fun w Z k => sh_iload_n dc_Mod_thread_16 rfl rfl k) ?_
  refine sh_mp (fun w Z k => sh_bipush (v := 11) dc_Mod_thread_17 (by decide) k) ?_
  refine sh_mcall (As := [.int o, .int 11]) (fun w hw => by obtain ⟨fs, hw⟩ := hw; exact sh_virt dc_Mod_thread_19 lm_Mod_out ln_Mod_82 wd_953 wd_29 rfl rfl (Nat.le_of_ble_eq_true rfl) hw rfl) (mx_Mod_out_3 (a := o) (b := 11) c2_19 c3_19) ⟨(Nat.le_of_ble_eq_true rfl), (Nat.le_of_ble_eq_true rfl), (Nat.le_of_ble_eq_true rfl), (Nat.le_of_ble_eq_true rfl)⟩ ?_
  show sh_mW _ _ _ (_, _, [.int 1]) (sh_u2 I 0 0 0) D _ _ _ _ _
  refine sh_mp (fun w Z k => sh_if_eq (tgt := 31) dc_Mod_thread_22 (by decide) (fun z => absurd z (by decide)) (fun _ => k)) ?_
  refine sh_mp (fun w Z k => sh_aload_n dc_Mod_thread_25 rfl rfl k) ?_
  refine sh_mp (fun w Z k => sh_iconst (v := 1) dc_Mod_thread_26 (by decide) k) ?_
  refine sh_mcall (As := [.int 1]) (fun w hw => by obtain ⟨fs, hw⟩ := hw; exact sh_virt dc_Mod_thread_27 lm_Mod_fail ln_Mod_86 wd_957 wd_30 rfl rfl (Nat.le_of_ble_eq_true rfl) hw rfl) (mx_Mod_fail_1 (c := 1)) ⟨(Nat.le_of_ble_eq_true rfl), (Nat.le_of_ble_eq_true rfl), (Nat.le_of_ble_eq_true rfl), (Nat.le_of_ble_eq_true rfl)⟩ ?_
  show sh_mW _ _ _ (_, _, [.int 0]) (sh_u2 (sh_u2 I 0 0 0) 0 0 1) D _ _ _ _ _
  exact sh_me (fun w => sh_ireturn dc_Mod_thread_30 rfl rfl (by decide) (by decide))
theorem mx_Mod_thread_x_4 {mq : Nat} {A : Nat → Nat} {I : sh_II} {D : sh_DD} {x : Int32} {o : Int32} (c0_9 : ¬ x < 0) (c1_9 : ¬ x < 6) : sh_mM mq A md_Mod_thread [.ref mq, .int x, .int o] I D (some (.int 0)) (sh_u2 (sh_u2 I 0 0 0) 0 0 1) D := by
  refine sh_mp (fun w Z k => sh_aload_n dc_Mod_thread_0 rfl rfl k) ?_
  refine sh_mp (fun w Z k => sh_iconst (v := 0) dc_Mod_thread_1 (by decide) k) ?_
  refine sh_mput 0 dc_Mod_thread_2 (by decide) fl_Mod_78 rfl ?_
  refine sh_mp (fun w Z k => sh_aload_n dc_Mod_thread_5 rfl rfl k) ?_
  refine sh_mp (fun w Z k => sh_iload_n dc_Mod_thread_6 rfl rfl k) ?_
  refine sh_mp (fun w Z k => sh_bipush (v := 6) dc_Mod_thread_7 (by decide) k) ?_
  refine sh_mcall (As := [.int x, .int 6]) (fun w hw => by obtain ⟨fs, hw⟩ := hw; exact sh_virt dc_Mod_thread_9 lm_Mod_out ln_Mod_82 wd_953 wd_29 rfl rfl (Nat.le_of_ble_eq_true rfl) hw rfl) (mx_Mod_out_3 (a := x) (b := 6) c0_9 c1_9) ⟨(Nat.le_of_ble_eq_true rfl), (Nat.le_of_ble_eq_true rfl), (Nat.le_of_ble_eq_true rfl), (Nat.le_of_ble_eq_true rfl)⟩ ?_
  show sh_mW _ _ _ (_, _, [.int 1]) (sh_u2 I 0 0 0) D _ _ _ _ _
  refine sh_mp (fun w Z k => sh_if_ne (tgt := 25) dc_Mod_thread_12 (by decide) (fun _ => k) (fun z => absurd z (by decide))) ?_
  refine sh_mp (fun w Z k => sh_aload_n dc_Mod_thread_25 rfl rfl k) ?_
  refine sh_mp (fun w Z k => sh_iconst (v := 1) dc_Mod_thread_26 (by decide) k) ?_
  refine sh_mcall (As := [.int 1]) (fun w hw => by obtain ⟨fs, hw⟩ := hw; exact sh_virt dc_Mod_thread_27 lm_Mod_fail ln_Mod_86 wd_957 wd_30 rfl rfl (Nat.le_of_ble_eq_true rfl) hw rfl) (mx_Mod_fail_1 (c := 1)) ⟨(Nat.le_of_ble_eq_true rfl), (Nat.le_of_ble_eq_true rfl), (Nat.le_of_ble_eq_true rfl), (Nat.le_of_ble_eq_true rfl)⟩ ?_
  show sh_mW _ _ _ (_, _, [.int 0]) (sh_u2 (sh_u2 I 0 0 0) 0 0 1) D _ _ _ _ _
  exact sh_me (fun w => sh_ireturn dc_Mod_thread_30 rfl rfl (by decide) (by decide))
theorem mx_Mod_thread_b_1 {mq : Nat} {A : Nat → Nat} {I : sh_II} {D : sh_DD} {t : Nat} {o : Int32} (ht : t < 6) (c0_19 : o < 0) : sh_mM mq A md_Mod_thread [.ref mq, .int (nI t), .int o] I D (some (.int 0)) (sh_u2 (sh_u2 I 0 0 0) 0 0 1) D := by
  refine sh_mp (fun w Z k => sh_aload_n dc_Mod_thread_0 rfl rfl k) ?_
  refine sh_mp (fun w Z k => sh_iconst (v := 0) dc_Mod_thread_1 (by decide) k) ?_
  refine sh_mput 0 dc_Mod_thread_2 (by decide) fl_Mod_78 rfl ?_
  refine sh_mp (fun w Z k => sh_aload_n dc_Mod_thread_5 rfl rfl k) ?_
  refine sh_mp (fun w Z k => sh_iload_n dc_Mod_thread_6 rfl rfl k) ?_
  refine sh_mp (fun w Z k => sh_bipush (v := 6) dc_Mod_thread_7 (by decide) k) ?_
  refine sh_mcall (As := [.int (nI t), .int 6]) (fun w hw => by obtain ⟨fs, hw⟩ := hw; exact sh_virt dc_Mod_thread_9 lm_Mod_out ln_Mod_82 wd_953 wd_29 rfl rfl (Nat.le_of_ble_eq_true rfl) hw rfl) (mx_Mod_out_2 (a := nI t) (b := 6) (nI_pos (by omega)) (sp_lt6 ht)) ⟨(Nat.le_of_ble_eq_true rfl), (Nat.le_of_ble_eq_true rfl), (Nat.le_of_ble_eq_true rfl), (Nat.le_of_ble_eq_true rfl)⟩ ?_
  show sh_mW _ _ _ (_, _, [.int 0]) (sh_u2 I 0 0 0) D _ _ _ _ _
  refine sh_mp (fun w Z k => sh_if_ne (tgt := 25) dc_Mod_thread_12 (by decide) (fun z => absurd (by decide) z) (fun _ => k)) ?_
  refine sh_mp (fun w Z k => sh_aload_n dc_Mod_thread_15 rfl rfl k) ?_
  refine sh_mp (fun w Z k => sh_iload_n dc_Mod_thread_16 rfl rfl k) ?_
  refine sh_mp (fun w Z k => sh_bipush (v := 11) dc_Mod_thread_17 (by decide) k) ?_
  refine sh_mcall (As := [.int o, .int 11]) (fun w hw => by obtain ⟨fs, hw⟩ := hw; exact sh_virt dc_Mod_thread_19 lm_Mod_out ln_Mod_82 wd_953 wd_29 rfl rfl (Nat.le_of_ble_eq_true rfl) hw rfl) (mx_Mod_out_1 (a := o) (b := 11) c0_19) ⟨(Nat.le_of_ble_eq_true rfl), (Nat.le_of_ble_eq_true rfl), (Nat.le_of_ble_eq_true rfl), (Nat.le_of_ble_eq_true rfl)⟩ ?_
  show sh_mW _ _ _ (_, _, [.int 1]) (sh_u2 I 0 0 0) D _ _ _ _ _
  refine sh_mp (fun w Z k => sh_if_eq (tgt := 31) dc_Mod_thread_22 (by decide) (fun z => absurd z (by decide)) (fun _ => k)) ?_
  refine sh_mp (fun w Z k => sh_aload_n dc_Mod_thread_25 rfl rfl k) ?_
  refine sh_mp (fun w Z k => sh_iconst (v := 1) dc_Mod_thread_26 (by decide) k) ?_
  refine sh_mcall (As := [.int 1]) (fun w hw => by obtain ⟨fs, hw⟩ := hw; exact sh_virt dc_Mod_thread_27 lm_Mod_fail ln_Mod_86 wd_957 wd_30 rfl rfl (Nat.le_of_ble_eq_true rfl) hw rfl) (mx_Mod_fail_1 (c := 1)) ⟨(Nat.le_of_ble_eq_true rfl), (Nat.le_of_ble_eq_true rfl), (Nat.le_of_ble_eq_true rfl), (Nat.le_of_ble_eq_true rfl)⟩ ?_
  show sh_mW _ _ _ (_, _, [.int 0]) (sh_u2 (sh_u2 I 0 0 0) 0 0 1) D _ _ _ _ _
  exact sh_me (fun w => sh_ireturn dc_Mod_thread_30 rfl rfl (by decide) (by decide))
theorem mx_Mod_thread_b_2 {mq : Nat} {A : Nat → Nat} {I : sh_II} {D : sh_DD} {t : Nat} {o : Int32} (ht : t < 6) (c0_19 : ¬ o < 0) (c1_19 : o < 11) (c2_32 : o = 0) (c3_41 : (I 1 t) = 0) : sh_mM mq A md_Mod_thread [.ref mq, .int (nI t), .int o] I D (some (.int 0)) (sh_u2 I 0 0 0) D := by
  refine sh_mp (fun w Z k => sh_aload_n dc_Mod_thread_0 rfl rfl k) ?_
  refine sh_mp (fun w Z k => sh_iconst (v := 0) dc_Mod_thread_1 (by decide) k) ?_
  refine sh_mput 0 dc_Mod_thread_2 (by decide) fl_Mod_78 rfl ?_
  refine sh_mp (fun w Z k => sh_aload_n dc_Mod_thread_5 rfl rfl k) ?_
  refine sh_mp (fun w Z k => sh_iload_n dc_Mod_thread_6 rfl rfl k) ?_
  refine sh_mp (fun w Z k => sh_bipush (v := 6) dc_Mod_thread_7 (by decide) k) ?_
  refine sh_mcall (As := [.int (nI t), .int 6]) (fun w hw => by obtain ⟨fs, hw⟩ := hw; exact sh_virt dc_Mod_thread_9 lm_Mod_out ln_Mod_82 wd_953 wd_29 rfl rfl (Nat.le_of_ble_eq_true rfl) hw rfl) (mx_Mod_out_2 (a := nI t) (b := 6) (nI_pos (by omega)) (sp_lt6 ht)) ⟨(Nat.le_of_ble_eq_true rfl), (Nat.le_of_ble_eq_true rfl), (Nat.le_of_ble_eq_true rfl), (Nat.le_of_ble_eq_true rfl)⟩ ?_
  show sh_mW _ _ _ (_, _, [.int 0]) (sh_u2 I 0 0 0) D _ _ _ _ _
  refine sh_mp (fun w Z k => sh_if_ne (tgt := 25) dc_Mod_thread_12 (by decide) (fun z => absurd (by decide) z) (fun _ => k)) ?_
  refine sh_mp (fun w Z k => sh_aload_n dc_Mod_thread_15 rfl rfl k) ?_
  refine sh_mp (fun w Z k => sh_iload_n dc_Mod_thread_16 rfl rfl k) ?_
  refine sh_mp (fun w Z k => sh_bipush (v := 11) dc_Mod_thread_17 (by decide) k) ?_
  refine sh_mcall (As := [.int o, .int 11]) (fun w hw => by obtain ⟨fs, hw⟩ := hw; exact sh_virt dc_Mod_thread_19 lm_Mod_out ln_Mod_82 wd_953 wd_29 rfl rfl (Nat.le_of_ble_eq_true rfl) hw rfl) (mx_Mod_out_2 (a := o) (b := 11) c0_19 c1_19) ⟨(Nat.le_of_ble_eq_true rfl), (Nat.le_of_ble_eq_true rfl), (Nat.le_of_ble_eq_true rfl), (Nat.le_of_ble_eq_true rfl)⟩ ?_
  show sh_mW _ _ _ (_, _, [.int 0]) (sh_u2 I 0 0 0) D _ _ _ _ _
  refine sh_mp (fun w Z k => sh_if_eq (tgt := 31) dc_Mod_thread_22 (by decide) (fun _ => k) (fun z => absurd (by decide) z)) ?_
  refine sh_mp (fun w Z k => sh_iload_n dc_Mod_thread_31 rfl rfl k) ?_
  refine sh_mp (fun w Z k => sh_if_ne (tgt := 50) dc_Mod_thread_32 (by decide) (fun z => absurd c2_32 z) (fun _ => k)) ?_
  refine sh_mp (fun w Z k => sh_aload_n dc_Mod_thread_35 rfl rfl k) ?_
  refine sh_mget 1 dc_Mod_thread_36 (by decide) fl_Mod_7 rfl rfl rfl rfl ?_
  refine sh_mp (fun w Z k => sh_iload_n dc_Mod_thread_39 rfl rfl k) ?_
  refine sh_mzald 1 (l := 6) (k := t) dc_Mod_thread_40 (by decide) rfl (by omega) (by decide) ?_
  refine sh_mti (show (sh_u2 I 0 0 0) 1 t = I 1 t from (sh_u2_row (by decide) _)) ?_
  refine sh_mp (fun w Z k => sh_if_eq (tgt := 48) dc_Mod_thread_41 (by decide) (fun _ => k) (fun z => absurd c3_41 z)) ?_
  refine sh_mp (fun w Z k => sh_iconst (v := 0) dc_Mod_thread_48 (by decide) k) ?_
  exact sh_me (fun w => sh_ireturn dc_Mod_thread_49 rfl rfl (by decide) (by decide))
theorem mx_Mod_thread_b_3 {mq : Nat} {A : Nat → Nat} {I : sh_II} {D : sh_DD} {t : Nat} {o : Int32} (ht : t < 6) (c0_19 : ¬ o < 0) (c1_19 : o < 11) (c2_32 : o = 0) (c3_41 : ¬ (I 1 t) = 0) : sh_mM mq A md_Mod_thread [.ref mq, .int (nI t), .int o] I D (some (.int 1)) (sh_u2 I 0 0 0) D := by
  refine sh_mp (fun w Z k => sh_aload_n dc_Mod_thread_0 rfl rfl k) ?_
  refine sh_mp (fun w Z k => sh_iconst (v := 0) dc_Mod_thread_1 (by decide) k) ?_
  refine sh_mput 0 dc_Mod_thread_2 (by decide) fl_Mod_78 rfl ?_
  refine sh_mp (fun w Z k => sh_aload_n dc_Mod_thread_5 rfl rfl k) ?_
  refine sh_mp (fun w Z k => sh_iload_n dc_Mod_thread_6 rfl rfl k) ?_
  refine sh_mp (fun w Z k => sh_bipush (v := 6) dc_Mod_thread_7 (by decide) k) ?_
  refine sh_mcall (As := [.int (nI t), .int 6]) (fun w hw => by obtain ⟨fs, hw⟩ := hw; exact sh_virt dc_Mod_thread_9 lm_Mod_out ln_Mod_82 wd_953 wd_29 rfl rfl (Nat.le_of_ble_eq_true rfl) hw rfl) (mx_Mod_out_2 (a := nI t) (b := 6) (nI_pos (by omega)) (sp_lt6 ht)) ⟨(Nat.le_of_ble_eq_true rfl), (Nat.le_of_ble_eq_true rfl), (Nat.le_of_ble_eq_true rfl), (Nat.le_of_ble_eq_true rfl)⟩ ?_
  show sh_mW _ _ _ (_, _, [.int 0]) (sh_u2 I 0 0 0) D _ _ _ _ _
  refine sh_mp (fun w Z k => sh_if_ne (tgt := 25) dc_Mod_thread_12 (by decide) (fun z => absurd (by decide) z) (fun _ => k)) ?_
  refine sh_mp (fun w Z k => sh_aload_n dc_Mod_thread_15 rfl rfl k) ?_
  refine sh_mp (fun w Z k => sh_iload_n dc_Mod_thread_16 rfl rfl k) ?_
  refine sh_mp (fun w Z k => sh_bipush (v := 11) dc_Mod_thread_17 (by decide) k) ?_
  refine sh_mcall (As := [.int o, .int 11]) (fun w hw => by obtain ⟨fs, hw⟩ := hw; exact sh_virt dc_Mod_thread_19 lm_Mod_out ln_Mod_82 wd_953 wd_29 rfl rfl (Nat.le_of_ble_eq_true rfl) hw rfl) (mx_Mod_out_2 (a := o) (b := 11) c0_19 c1_19) ⟨(Nat.le_of_ble_eq_true rfl), (Nat.le_of_ble_eq_true rfl), (Nat.le_of_ble_eq_true rfl), (Nat.le_of_ble_eq_true rfl)⟩ ?_
  show sh_mW _ _ _ (_, _, [.int 0]) (sh_u2 I 0 0 0) D _ _ _ _ _
  refine sh_mp (fun w Z k => sh_if_eq (tgt := 31) dc_Mod_thread_22 (by decide) (fun _ => k) (fun z => absurd (by decide) z)) ?_
  refine sh_mp (fun w Z k => sh_iload_n dc_Mod_thread_31 rfl rfl k) ?_
  refine sh_mp (fun w Z k => sh_if_ne (tgt := 50) dc_Mod_thread_32 (by decide) (fun z => absurd c2_32 z) (fun _ => k)) ?_
  refine sh_mp (fun w Z k => sh_aload_n dc_Mod_thread_35 rfl rfl k) ?_
  refine sh_mget 1 dc_Mod_thread_36 (by decide) fl_Mod_7 rfl rfl rfl rfl ?_
  refine sh_mp (fun w Z k => sh_iload_n dc_Mod_thread_39 rfl rfl k) ?_
  refine sh_mzald 1 (l := 6) (k := t) dc_Mod_thread_40 (by decide) rfl (by omega) (by decide) ?_
  refine sh_mti (show (sh_u2 I 0 0 0) 1 t = I 1 t from (sh_u2_row (by decide) _)) ?_
  refine sh_mp (fun w Z k => sh_if_eq (tgt := 48) dc_Mod_thread_41 (by decide) (fun z => absurd z c3_41) (fun _ => k)) ?_
  refine sh_mp (fun w Z k => sh_iconst (v := 1) dc_Mod_thread_44 (by decide) k) ?_
  refine sh_mp (fun w Z k => sh_goto_ (tgt := 49) dc_Mod_thread_45 (by decide) k) ?_
  exact sh_me (fun w => sh_ireturn dc_Mod_thread_49 rfl rfl (by decide) (by decide))
theorem mx_Mod_thread_b_4 {mq : Nat} {A : Nat → Nat} {I : sh_II} {D : sh_DD} {t : Nat} {o : Int32} (ht : t < 6) (c0_19 : ¬ o < 0) (c1_19 : o < 11) (c2_32 : ¬ o = 0) (c3_52 : o = 1) : sh_mM mq A md_Mod_thread [.ref mq, .int (nI t), .int o] I D (some (.int (I 4 t))) (sh_u2 I 0 0 0) D := by
  refine sh_mp (fun w Z k => sh_aload_n dc_Mod_thread_0 rfl rfl k) ?_
  refine sh_mp (fun w Z k => sh_iconst (v := 0) dc_Mod_thread_1 (by decide) k) ?_
  refine sh_mput 0 dc_Mod_thread_2 (by decide) fl_Mod_78 rfl ?_
  refine sh_mp (fun w Z k => sh_aload_n dc_Mod_thread_5 rfl rfl k) ?_
  refine sh_mp (fun w Z k => sh_iload_n dc_Mod_thread_6 rfl rfl k) ?_
  refine sh_mp (fun w Z k => sh_bipush (v := 6) dc_Mod_thread_7 (by decide) k) ?_
  refine sh_mcall (As := [.int (nI t), .int 6]) (fun w hw => by obtain ⟨fs, hw⟩ := hw; exact sh_virt dc_Mod_thread_9 lm_Mod_out ln_Mod_82 wd_953 wd_29 rfl rfl (Nat.le_of_ble_eq_true rfl) hw rfl) (mx_Mod_out_2 (a := nI t) (b := 6) (nI_pos (by omega)) (sp_lt6 ht)) ⟨(Nat.le_of_ble_eq_true rfl), (Nat.le_of_ble_eq_true rfl), (Nat.le_of_ble_eq_true rfl), (Nat.le_of_ble_eq_true rfl)⟩ ?_
  show sh_mW _ _ _ (_, _, [.int 0]) (sh_u2 I 0 0 0) D _ _ _ _ _
  refine sh_mp (fun w Z k => sh_if_ne (tgt := 25) dc_Mod_thread_12 (by decide) (fun z => absurd (by decide) z) (fun _ => k)) ?_
  refine sh_mp (fun w Z k => sh_aload_n dc_Mod_thread_15 rfl rfl k) ?_
  refine sh_mp (fun w Z k => sh_iload_n dc_Mod_thread_16 rfl rfl k) ?_
  refine sh_mp (fun w Z k => sh_bipush (v := 11) dc_Mod_thread_17 (by decide) k) ?_
  refine sh_mcall (As := [.int o, .int 11]) (fun w hw => by obtain ⟨fs, hw⟩ := hw; exact sh_virt dc_Mod_thread_19 lm_Mod_out ln_Mod_82 wd_953 wd_29 rfl rfl (Nat.le_of_ble_eq_true rfl) hw rfl) (mx_Mod_out_2 (a := o) (b := 11) c0_19 c1_19) ⟨(Nat.le_of_ble_eq_true rfl), (Nat.le_of_ble_eq_true rfl), (Nat.le_of_ble_eq_true rfl), (Nat.le_of_ble_eq_true rfl)⟩ ?_
  show sh_mW _ _ _ (_, _, [.int 0]) (sh_u2 I 0 0 0) D _ _ _ _ _
  refine sh_mp (fun w Z k => sh_if_eq (tgt := 31) dc_Mod_thread_22 (by decide) (fun _ => k) (fun z => absurd (by decide) z)) ?_
  refine sh_mp (fun w Z k => sh_iload_n dc_Mod_thread_31 rfl rfl k) ?_
  refine sh_mp (fun w Z k => sh_if_ne (tgt := 50) dc_Mod_thread_32 (by decide) (fun _ => k) (fun z => absurd z c2_32)) ?_
  refine sh_mp (fun w Z k => sh_iload_n dc_Mod_thread_50 rfl rfl k) ?_
  refine sh_mp (fun w Z k => sh_iconst (v := 1) dc_Mod_thread_51 (by decide) k) ?_
  refine sh_mp (fun w Z k => sh_icmp_ne (tgt := 62) dc_Mod_thread_52 (by decide) (fun z => absurd c3_52 z) (fun _ => k)) ?_
  refine sh_mp (fun w Z k => sh_aload_n dc_Mod_thread_55 rfl rfl k) ?_
  refine sh_mget 4 dc_Mod_thread_56 (by decide) fl_Mod_20 rfl rfl rfl rfl ?_
  refine sh_mp (fun w Z k => sh_iload_n dc_Mod_thread_59 rfl rfl k) ?_
  refine sh_miald 4 (l := 6) (k := t) dc_Mod_thread_60 (by decide) rfl (by omega) (by decide) ?_
  refine sh_mti (show (sh_u2 I 0 0 0) 4 t = I 4 t from (sh_u2_row (by decide) _)) ?_
  exact sh_me (fun w => sh_ireturn dc_Mod_thread_61 rfl rfl (by decide) (by decide))
theorem mx_Mod_thread_b_5 {mq : Nat} {A : Nat → Nat} {I : sh_II} {D : sh_DD} {t : Nat} {o : Int32} (ht : t < 6) (c0_19 : ¬ o < 0) (c1_19 : o < 11) (c2_32 : ¬ o = 0) (c3_52 : ¬ o = 1) (c4_64 : o = 2) (c5_73 : (I 2 t) = 0) : sh_mM mq A md_Mod_thread [.ref mq, .int (nI t), .int o] I D (some (.int 0)) (sh_u2 I 0 0 0) D := by
  refine sh_mp (fun w Z k => sh_aload_n dc_Mod_thread_0 rfl rfl k) ?_
  refine sh_mp (fun w Z k => sh_iconst (v := 0) dc_Mod_thread_1 (by decide) k) ?_
  refine sh_mput 0 dc_Mod_thread_2 (by decide) fl_Mod_78 rfl ?_
  refine sh_mp (fun w Z k => sh_aload_n dc_Mod_thread_5 rfl rfl k) ?_
  refine sh_mp (fun w Z k => sh_iload_n dc_Mod_thread_6 rfl rfl k) ?_
  refine sh_mp (fun w Z k => sh_bipush (v := 6) dc_Mod_thread_7 (by decide) k) ?_
  refine sh_mcall (As := [.int (nI t), .int 6]) (fun w hw => by obtain ⟨fs, hw⟩ := hw; exact sh_virt dc_Mod_thread_9 lm_Mod_out ln_Mod_82 wd_953 wd_29 rfl rfl (Nat.le_of_ble_eq_true rfl) hw rfl) (mx_Mod_out_2 (a := nI t) (b := 6) (nI_pos (by omega)) (sp_lt6 ht)) ⟨(Nat.le_of_ble_eq_true rfl), (Nat.le_of_ble_eq_true rfl), (Nat.le_of_ble_eq_true rfl), (Nat.le_of_ble_eq_true rfl)⟩ ?_
  show sh_mW _ _ _ (_, _, [.int 0]) (sh_u2 I 0 0 0) D _ _ _ _ _
  refine sh_mp (fun w Z k => sh_if_ne (tgt := 25) dc_Mod_thread_12 (by decide) (fun z => absurd (by decide) z) (fun _ => k)) ?_
  refine sh_mp (fun w Z k => sh_aload_n dc_Mod_thread_15 rfl rfl k) ?_
  refine sh_mp (fun w Z k => sh_iload_n dc_Mod_thread_16 rfl rfl k) ?_
  refine sh_mp (fun w Z k => sh_bipush (v := 11) dc_Mod_thread_17 (by decide) k) ?_
  refine sh_mcall (As := [.int o, .int 11]) (fun w hw => by obtain ⟨fs, hw⟩ := hw; exact sh_virt dc_Mod_thread_19 lm_Mod_out ln_Mod_82 wd_953 wd_29 rfl rfl (Nat.le_of_ble_eq_true rfl) hw rfl) (mx_Mod_out_2 (a := o) (b := 11) c0_19 c1_19) ⟨(Nat.le_of_ble_eq_true rfl), (Nat.le_of_ble_eq_true rfl), (Nat.le_of_ble_eq_true rfl), (Nat.le_of_ble_eq_true rfl)⟩ ?_
  show sh_mW _ _ _ (_, _, [.int 0]) (sh_u2 I 0 0 0) D _ _ _ _ _
  refine sh_mp (fun w Z k => sh_if_eq (tgt := 31) dc_Mod_thread_22 (by decide) (fun _ => k) (fun z => absurd (by decide) z)) ?_
  refine sh_mp (fun w Z k => sh_iload_n dc_Mod_thread_31 rfl rfl k) ?_
  refine sh_mp (fun w Z k => sh_if_ne (tgt := 50) dc_Mod_thread_32 (by decide) (fun _ => k) (fun z => absurd z c2_32)) ?_
  refine sh_mp (fun w Z k => sh_iload_n dc_Mod_thread_50 rfl rfl k) ?_
  refine sh_mp (fun w Z k => sh_iconst (v := 1) dc_Mod_thread_51 (by decide) k) ?_
  refine sh_mp (fun w Z k => sh_icmp_ne (tgt := 62) dc_Mod_thread_52 (by decide) (fun _ => k) (fun z => absurd z c3_52)) ?_
  refine sh_mp (fun w Z k => sh_iload_n dc_Mod_thread_62 rfl rfl k) ?_
  refine sh_mp (fun w Z k => sh_iconst (v := 2) dc_Mod_thread_63 (by decide) k) ?_
  refine sh_mp (fun w Z k => sh_icmp_ne (tgt := 82) dc_Mod_thread_64 (by decide) (fun z => absurd c4_64 z) (fun _ => k)) ?_
  refine sh_mp (fun w Z k => sh_aload_n dc_Mod_thread_67 rfl rfl k) ?_
  refine sh_mget 2 dc_Mod_thread_68 (by decide) fl_Mod_13 rfl rfl rfl rfl ?_
  refine sh_mp (fun w Z k => sh_iload_n dc_Mod_thread_71 rfl rfl k) ?_
  refine sh_mzald 2 (l := 6) (k := t) dc_Mod_thread_72 (by decide) rfl (by omega) (by decide) ?_
  refine sh_mti (show (sh_u2 I 0 0 0) 2 t = I 2 t from (sh_u2_row (by decide) _)) ?_
  refine sh_mp (fun w Z k => sh_if_eq (tgt := 80) dc_Mod_thread_73 (by decide) (fun _ => k) (fun z => absurd c5_73 z)) ?_
  refine sh_mp (fun w Z k => sh_iconst (v := 0) dc_Mod_thread_80 (by decide) k) ?_
  exact sh_me (fun w => sh_ireturn dc_Mod_thread_81 rfl rfl (by decide) (by decide))
theorem mx_Mod_thread_b_6 {mq : Nat} {A : Nat → Nat} {I : sh_II} {D : sh_DD} {t : Nat} {o : Int32} (ht : t < 6) (c0_19 : ¬ o < 0) (c1_19 : o < 11) (c2_32 : ¬ o = 0) (c3_52 : ¬ o = 1) (c4_64 : o = 2) (c5_73 : ¬ (I 2 t) = 0) : sh_mM mq A md_Mod_thread [.ref mq, .int (nI t), .int o] I D (some (.int 1)) (sh_u2 I 0 0 0) D := by
  refine sh_mp (fun w Z k => sh_aload_n dc_Mod_thread_0 rfl rfl k) ?_
  refine sh_mp (fun w Z k => sh_iconst (v := 0) dc_Mod_thread_1 (by decide) k) ?_
  refine sh_mput 0 dc_Mod_thread_2 (by decide) fl_Mod_78 rfl ?_
  refine sh_mp (fun w Z k => sh_aload_n dc_Mod_thread_5 rfl rfl k) ?_
  refine sh_mp (fun w Z k => sh_iload_n dc_Mod_thread_6 rfl rfl k) ?_
  refine sh_mp (fun w Z k => sh_bipush (v := 6) dc_Mod_thread_7 (by decide) k) ?_
  refine sh_mcall (As := [.int (nI t), .int 6]) (fun w hw => by obtain ⟨fs, hw⟩ := hw; exact sh_virt dc_Mod_thread_9 lm_Mod_out ln_Mod_82 wd_953 wd_29 rfl rfl (Nat.le_of_ble_eq_true rfl) hw rfl) (mx_Mod_out_2 (a := nI t) (b := 6) (nI_pos (by omega)) (sp_lt6 ht)) ⟨(Nat.le_of_ble_eq_true rfl), (Nat.le_of_ble_eq_true rfl), (Nat.le_of_ble_eq_true rfl), (Nat.le_of_ble_eq_true rfl)⟩ ?_
  show sh_mW _ _ _ (_, _, [.int 0]) (sh_u2 I 0 0 0) D _ _ _ _ _
  refine sh_mp (fun w Z k => sh_if_ne (tgt := 25) dc_Mod_thread_12 (by decide) (fun z => absurd (by decide) z) (fun _ => k)) ?_
  refine sh_mp (fun w Z k => sh_aload_n dc_Mod_thread_15 rfl rfl k) ?_
  refine sh_mp (fun w Z k => sh_iload_n dc_Mod_thread_16 rfl rfl k) ?_
  refine sh_mp (fun w Z k => sh_bipush (v := 11) dc_Mod_thread_17 (by decide) k) ?_
  refine sh_mcall (As := [.int o, .int 11]) (fun w hw => by obtain ⟨fs, hw⟩ := hw; exact sh_virt dc_Mod_thread_19 lm_Mod_out ln_Mod_82 wd_953 wd_29 rfl rfl (Nat.le_of_ble_eq_true rfl) hw rfl) (mx_Mod_out_2 (a := o) (b := 11) c0_19 c1_19) ⟨(Nat.le_of_ble_eq_true rfl), (Nat.le_of_ble_eq_true rfl), (Nat.le_of_ble_eq_true rfl), (Nat.le_of_ble_eq_true rfl)⟩ ?_
  show sh_mW _ _ _ (_, _, [.int 0]) (sh_u2 I 0 0 0) D _ _ _ _ _
  refine sh_mp (fun w Z k => sh_if_eq (tgt := 31) dc_Mod_thread_22 (by decide) (fun _ => k) (fun z => absurd (by decide) z)) ?_
  refine sh_mp (fun w Z k => sh_iload_n dc_Mod_thread_31 rfl rfl k) ?_
  refine sh_mp (fun w Z k => sh_if_ne (tgt := 50) dc_Mod_thread_32 (by decide) (fun _ => k) (fun z => absurd z c2_32)) ?_
  refine sh_mp (fun w Z k => sh_iload_n dc_Mod_thread_50 rfl rfl k) ?_
  refine sh_mp (fun w Z k => sh_iconst (v := 1) dc_Mod_thread_51 (by decide) k) ?_
  refine sh_mp (fun w Z k => sh_icmp_ne (tgt := 62) dc_Mod_thread_52 (by decide) (fun _ => k) (fun z => absurd z c3_52)) ?_
  refine sh_mp (fun w Z k => sh_iload_n dc_Mod_thread_62 rfl rfl k) ?_
  refine sh_mp (fun w Z k => sh_iconst (v := 2) dc_Mod_thread_63 (by decide) k) ?_
  refine sh_mp (fun w Z k => sh_icmp_ne (tgt := 82) dc_Mod_thread_64 (by decide) (fun z => absurd c4_64 z) (fun _ => k)) ?_
  refine sh_mp (fun w Z k => sh_aload_n dc_Mod_thread_67 rfl rfl k) ?_
  refine sh_mget 2 dc_Mod_thread_68 (by decide) fl_Mod_13 rfl rfl rfl rfl ?_
  refine sh_mp (fun w Z k => sh_iload_n dc_Mod_thread_71 rfl rfl k) ?_
  refine sh_mzald 2 (l := 6) (k := t) dc_Mod_thread_72 (by decide) rfl (by omega) (by decide) ?_
  refine sh_mti (show (sh_u2 I 0 0 0) 2 t = I 2 t from (sh_u2_row (by decide) _)) ?_
  refine sh_mp (fun w Z k => sh_if_eq (tgt := 80) dc_Mod_thread_73 (by decide) (fun z => absurd z c5_73) (fun _ => k)) ?_
  refine sh_mp (fun w Z k => sh_iconst (v := 1) dc_Mod_thread_76 (by decide) k) ?_
  refine sh_mp (fun w Z k => sh_goto_ (tgt := 81) dc_Mod_thread_77 (by decide) k) ?_
  exact sh_me (fun w => sh_ireturn dc_Mod_thread_81 rfl rfl (by decide) (by decide))
theorem mx_Mod_thread_b_7 {mq : Nat} {A : Nat → Nat} {I : sh_II} {D : sh_DD} {t : Nat} {o : Int32} (ht : t < 6) (c0_19 : ¬ o < 0) (c1_19 : ¬ o < 11) : sh_mM mq A md_Mod_thread [.ref mq, .int (nI t), .int o] I D (some (.int 0)) (sh_u2 (sh_u2 I 0 0 0) 0 0 1) D := by
  refine sh_mp (fun w Z k => sh_aload_n dc_Mod_thread_0 rfl rfl k) ?_
  refine sh_mp (fun w Z k => sh_iconst (v := 0) dc_Mod_thread_1 (by decide) k) ?_
  refine sh_mput 0 dc_Mod_thread_2 (by decide) fl_Mod_78 rfl ?_
  refine sh_mp (fun w Z k => sh_aload_n dc_Mod_thread_5 rfl rfl k) ?_
  refine sh_mp (fun w Z k => sh_iload_n dc_Mod_thread_6 rfl rfl k) ?_
  refine sh_mp (fun w Z k => sh_bipush (v := 6) dc_Mod_thread_7 (by decide) k) ?_
  refine sh_mcall (As := [.int (nI t), .int 6]) (fun w hw => by obtain ⟨fs, hw⟩ := hw; exact sh_virt dc_Mod_thread_9 lm_Mod_out ln_Mod_82 wd_953 wd_29 rfl rfl (Nat.le_of_ble_eq_true rfl) hw rfl) (mx_Mod_out_2 (a := nI t) (b := 6) (nI_pos (by omega)) (sp_lt6 ht)) ⟨(Nat.le_of_ble_eq_true rfl), (Nat.le_of_ble_eq_true rfl), (Nat.le_of_ble_eq_true rfl), (Nat.le_of_ble_eq_true rfl)⟩ ?_
  show sh_mW _ _ _ (_, _, [.int 0]) (sh_u2 I 0 0 0) D _ _ _ _ _
  refine sh_mp (fun w Z k => sh_if_ne (tgt := 25) dc_Mod_thread_12 (by decide) (fun z => absurd (by decide) z) (fun _ => k)) ?_
  refine sh_mp (fun w Z k => sh_aload_n dc_Mod_thread_15 rfl rfl k) ?_
  refine sh_mp (fun w Z k => sh_iload_n dc_Mod_thread_16 rfl rfl k) ?_
  refine sh_mp (fun w Z k => sh_bipush (v := 11) dc_Mod_thread_17 (by decide) k) ?_
  refine sh_mcall (As := [.int o, .int 11]) (fun w hw => by obtain ⟨fs, hw⟩ := hw; exact sh_virt dc_Mod_thread_19 lm_Mod_out ln_Mod_82 wd_953 wd_29 rfl rfl (Nat.le_of_ble_eq_true rfl) hw rfl) (mx_Mod_out_3 (a := o) (b := 11) c0_19 c1_19) ⟨(Nat.le_of_ble_eq_true rfl), (Nat.le_of_ble_eq_true rfl), (Nat.le_of_ble_eq_true rfl), (Nat.le_of_ble_eq_true rfl)⟩ ?_
  show sh_mW _ _ _ (_, _, [.int 1]) (sh_u2 I 0 0 0) D _ _ _ _ _
  refine sh_mp (fun w Z k => sh_if_eq (tgt := 31) dc_Mod_thread_22 (by decide) (fun z => absurd z (by decide)) (fun _ => k)) ?_
  refine sh_mp (fun w Z k => sh_aload_n dc_Mod_thread_25 rfl rfl k) ?_
  refine sh_mp (fun w Z k => sh_iconst (v := 1) dc_Mod_thread_26 (by decide) k) ?_
  refine sh_mcall (As := [.int 1]) (fun w hw => by obtain ⟨fs, hw⟩ := hw; exact sh_virt dc_Mod_thread_27 lm_Mod_fail ln_Mod_86 wd_957 wd_30 rfl rfl (Nat.le_of_ble_eq_true rfl) hw rfl) (mx_Mod_fail_1 (c := 1)) ⟨(Nat.le_of_ble_eq_true rfl), (Nat.le_of_ble_eq_true rfl), (Nat.le_of_ble_eq_true rfl), (Nat.le_of_ble_eq_true rfl)⟩ ?_
  show sh_mW _ _ _ (_, _, [.int 0]) (sh_u2 (sh_u2 I 0 0 0) 0 0 1) D _ _ _ _ _
  exact sh_me (fun w => sh_ireturn dc_Mod_thread_30 rfl rfl (by decide) (by decide))
theorem mx_Mod_thread_s_1 {mq : Nat} {A : Nat → Nat} {I : sh_II} {D : sh_DD} {t : Nat} {s : Nat} (ht : t < 6) (hs : s < 8) (c0_93 : (I 13 s) = (nI t)) : sh_mM mq A md_Mod_thread [.ref mq, .int (nI t), .int (nI (s + 3))] I D (some (.int ((I 14 s) + (I 17 ((6 * s) + t))))) (sh_u2 I 0 0 0) D := by
  refine sh_mp (fun w Z k => sh_aload_n dc_Mod_thread_0 rfl rfl k) ?_
  refine sh_mp (fun w Z k => sh_iconst (v := 0) dc_Mod_thread_1 (by decide) k) ?_
  refine sh_mput 0 dc_Mod_thread_2 (by decide) fl_Mod_78 rfl ?_
  refine sh_mp (fun w Z k => sh_aload_n dc_Mod_thread_5 rfl rfl k) ?_
  refine sh_mp (fun w Z k => sh_iload_n dc_Mod_thread_6 rfl rfl k) ?_
  refine sh_mp (fun w Z k => sh_bipush (v := 6) dc_Mod_thread_7 (by decide) k) ?_
  refine sh_mcall (As := [.int (nI t), .int 6]) (fun w hw => by obtain ⟨fs, hw⟩ := hw; exact sh_virt dc_Mod_thread_9 lm_Mod_out ln_Mod_82 wd_953 wd_29 rfl rfl (Nat.le_of_ble_eq_true rfl) hw rfl) (mx_Mod_out_2 (a := nI t) (b := 6) (nI_pos (by omega)) (sp_lt6 ht)) ⟨(Nat.le_of_ble_eq_true rfl), (Nat.le_of_ble_eq_true rfl), (Nat.le_of_ble_eq_true rfl), (Nat.le_of_ble_eq_true rfl)⟩ ?_
  show sh_mW _ _ _ (_, _, [.int 0]) (sh_u2 I 0 0 0) D _ _ _ _ _
  refine sh_mp (fun w Z k => sh_if_ne (tgt := 25) dc_Mod_thread_12 (by decide) (fun z => absurd (by decide) z) (fun _ => k)) ?_
  refine sh_mp (fun w Z k => sh_aload_n dc_Mod_thread_15 rfl rfl k) ?_
  refine sh_mp (fun w Z k => sh_iload_n dc_Mod_thread_16 rfl rfl k) ?_
  refine sh_mp (fun w Z k => sh_bipush (v := 11) dc_Mod_thread_17 (by decide) k) ?_
  refine sh_mcall (As := [.int (nI (s + 3)), .int 11]) (fun w hw => by obtain ⟨fs, hw⟩ := hw; exact sh_virt dc_Mod_thread_19 lm_Mod_out ln_Mod_82 wd_953 wd_29 rfl rfl (Nat.le_of_ble_eq_true rfl) hw rfl) (mx_Mod_out_2 (a := nI (s + 3)) (b := 11) (nI_pos (by omega)) (sp_lt11 hs)) ⟨(Nat.le_of_ble_eq_true rfl), (Nat.le_of_ble_eq_true rfl), (Nat.le_of_ble_eq_true rfl), (Nat.le_of_ble_eq_true rfl)⟩ ?_
  show sh_mW _ _ _ (_, _, [.int 0]) (sh_u2 I 0 0 0) D _ _ _ _ _
  refine sh_mp (fun w Z k => sh_if_eq (tgt := 31) dc_Mod_thread_22 (by decide) (fun _ => k) (fun z => absurd (by decide) z)) ?_
  refine sh_mp (fun w Z k => sh_iload_n dc_Mod_thread_31 rfl rfl k) ?_
  refine sh_mp (fun w Z k => sh_if_ne (tgt := 50) dc_Mod_thread_32 (by decide) (fun _ => k) (fun z => absurd z (nI_neN (n := 0) (by omega) ⟨by omega, by omega⟩))) ?_
  refine sh_mp (fun w Z k => sh_iload_n dc_Mod_thread_50 rfl rfl k) ?_
  refine sh_mp (fun w Z k => sh_iconst (v := 1) dc_Mod_thread_51 (by decide) k) ?_
  refine sh_mp (fun w Z k => sh_icmp_ne (tgt := 62) dc_Mod_thread_52 (by decide) (fun _ => k) (fun z => absurd z (nI_neN (n := 1) (by omega) ⟨by omega, by omega⟩))) ?_
  refine sh_mp (fun w Z k => sh_iload_n dc_Mod_thread_62 rfl rfl k) ?_
  refine sh_mp (fun w Z k => sh_iconst (v := 2) dc_Mod_thread_63 (by decide) k) ?_
  refine sh_mp (fun w Z k => sh_icmp_ne (tgt := 82) dc_Mod_thread_64 (by decide) (fun _ => k) (fun z => absurd z (nI_neN (n := 2) (by omega) ⟨by omega, by omega⟩))) ?_
  refine sh_mp (fun w Z k => sh_iload_n dc_Mod_thread_82 rfl rfl k) ?_
  refine sh_mp (fun w Z k => sh_iconst (v := 3) dc_Mod_thread_83 (by decide) k) ?_
  refine sh_mp (fun w Z k => sh_isub dc_Mod_thread_84 k) ?_
  refine sh_mp (fun w Z k => sh_istore_n dc_Mod_thread_85 rfl (by decide) k) ?_
  refine sh_mp (fun w Z k => sh_aload_n dc_Mod_thread_86 rfl rfl k) ?_
  refine sh_mget 13 dc_Mod_thread_87 (by decide) fl_Mod_45 rfl rfl rfl rfl ?_
  refine sh_mp (fun w Z k => sh_iload_n dc_Mod_thread_90 rfl rfl k) ?_
  refine sh_miald 13 (l := 8) (k := s) dc_Mod_thread_91 (by decide) (sp_sub3 s) (by omega) (by decide) ?_
  refine sh_mti (show (sh_u2 I 0 0 0) 13 s = I 13 s from (sh_u2_row (by decide) _)) ?_
  refine sh_mp (fun w Z k => sh_iload_n dc_Mod_thread_92 rfl rfl k) ?_
  refine sh_mp (fun w Z k => sh_icmp_ne (tgt := 105) dc_Mod_thread_93 (by decide) (fun z => absurd c0_93 z) (fun _ => k)) ?_
  refine sh_mp (fun w Z k => sh_aload_n dc_Mod_thread_96 rfl rfl k) ?_
  refine sh_mget 14 dc_Mod_thread_97 (by decide) fl_Mod_48 rfl rfl rfl rfl ?_
  refine sh_mp (fun w Z k => sh_iload_n dc_Mod_thread_100 rfl rfl k) ?_
  refine sh_miald 14 (l := 8) (k := s) dc_Mod_thread_101 (by decide) (sp_sub3 s) (by omega) (by decide) ?_
  refine sh_mti (show (sh_u2 I 0 0 0) 14 s = I 14 s from (sh_u2_row (by decide) _)) ?_
  refine sh_mp (fun w Z k => sh_goto_ (tgt := 106) dc_Mod_thread_102 (by decide) k) ?_
  refine sh_mp (fun w Z k => sh_aload_n dc_Mod_thread_106 rfl rfl k) ?_
  refine sh_mget 17 dc_Mod_thread_107 (by decide) fl_Mod_57 rfl rfl rfl rfl ?_
  refine sh_mp (fun w Z k => sh_bipush (v := 6) dc_Mod_thread_110 (by decide) k) ?_
  refine sh_mp (fun w Z k => sh_iload_n dc_Mod_thread_112 rfl rfl k) ?_
  refine sh_mp (fun w Z k => sh_imul dc_Mod_thread_113 k) ?_
  refine sh_mp (fun w Z k => sh_iload_n dc_Mod_thread_114 rfl rfl k) ?_
  refine sh_mp (fun w Z k => sh_iadd dc_Mod_thread_115 k) ?_
  refine sh_miald 17 (l := 48) (k := (6 * s) + t) dc_Mod_thread_116 (by decide) (sh_nadd (sh_nmul rfl (sp_sub3 s)) rfl) (by omega) (by decide) ?_
  refine sh_mti (show (sh_u2 I 0 0 0) 17 ((6 * s) + t) = I 17 ((6 * s) + t) from (sh_u2_row (by decide) _)) ?_
  refine sh_mp (fun w Z k => sh_iadd dc_Mod_thread_117 k) ?_
  exact sh_me (fun w => sh_ireturn dc_Mod_thread_118 rfl rfl (by decide) (by decide))
theorem mx_Mod_thread_s_2 {mq : Nat} {A : Nat → Nat} {I : sh_II} {D : sh_DD} {t : Nat} {s : Nat} (ht : t < 6) (hs : s < 8) (c0_93 : ¬ (I 13 s) = (nI t)) : sh_mM mq A md_Mod_thread [.ref mq, .int (nI t), .int (nI (s + 3))] I D (some (.int (0 + (I 17 ((6 * s) + t))))) (sh_u2 I 0 0 0) D := by
  refine sh_mp (fun w Z k => sh_aload_n dc_Mod_thread_0 rfl rfl k) ?_
  refine sh_mp (fun w Z k => sh_iconst (v := 0) dc_Mod_thread_1 (by decide) k) ?_
  refine sh_mput 0 dc_Mod_thread_2 (by decide) fl_Mod_78 rfl ?_
  refine sh_mp (fun w Z k => sh_aload_n dc_Mod_thread_5 rfl rfl k) ?_
  refine sh_mp (fun w Z k => sh_iload_n dc_Mod_thread_6 rfl rfl k) ?_
  refine sh_mp (fun w Z k => sh_bipush (v := 6) dc_Mod_thread_7 (by decide) k) ?_
  refine sh_mcall (As := [.int (nI t), .int 6]) (fun w hw => by obtain ⟨fs, hw⟩ := hw; exact sh_virt dc_Mod_thread_9 lm_Mod_out ln_Mod_82 wd_953 wd_29 rfl rfl (Nat.le_of_ble_eq_true rfl) hw rfl) (mx_Mod_out_2 (a := nI t) (b := 6) (nI_pos (by omega)) (sp_lt6 ht)) ⟨(Nat.le_of_ble_eq_true rfl), (Nat.le_of_ble_eq_true rfl), (Nat.le_of_ble_eq_true rfl), (Nat.le_of_ble_eq_true rfl)⟩ ?_
  show sh_mW _ _ _ (_, _, [.int 0]) (sh_u2 I 0 0 0) D _ _ _ _ _
  refine sh_mp (fun w Z k => sh_if_ne (tgt := 25) dc_Mod_thread_12 (by decide) (fun z => absurd (by decide) z) (fun _ => k)) ?_
  refine sh_mp (fun w Z k => sh_aload_n dc_Mod_thread_15 rfl rfl k) ?_
  refine sh_mp (fun w Z k => sh_iload_n dc_Mod_thread_16 rfl rfl k) ?_
  refine sh_mp (fun w Z k => sh_bipush (v := 11) dc_Mod_thread_17 (by decide) k) ?_
  refine sh_mcall (As := [.int (nI (s + 3)), .int 11]) (fun w hw => by obtain ⟨fs, hw⟩ := hw; exact sh_virt dc_Mod_thread_19 lm_Mod_out ln_Mod_82 wd_953 wd_29 rfl rfl (Nat.le_of_ble_eq_true rfl) hw rfl) (mx_Mod_out_2 (a := nI (s + 3)) (b := 11) (nI_pos (by omega)) (sp_lt11 hs)) ⟨(Nat.le_of_ble_eq_true rfl), (Nat.le_of_ble_eq_true rfl), (Nat.le_of_ble_eq_true rfl), (Nat.le_of_ble_eq_true rfl)⟩ ?_
  show sh_mW _ _ _ (_, _, [.int 0]) (sh_u2 I 0 0 0) D _ _ _ _ _
  refine sh_mp (fun w Z k => sh_if_eq (tgt := 31) dc_Mod_thread_22 (by decide) (fun _ => k) (fun z => absurd (by decide) z)) ?_
  refine sh_mp (fun w Z k => sh_iload_n dc_Mod_thread_31 rfl rfl k) ?_
  refine sh_mp (fun w Z k => sh_if_ne (tgt := 50) dc_Mod_thread_32 (by decide) (fun _ => k) (fun z => absurd z (nI_neN (n := 0) (by omega) ⟨by omega, by omega⟩))) ?_
  refine sh_mp (fun w Z k => sh_iload_n dc_Mod_thread_50 rfl rfl k) ?_
  refine sh_mp (fun w Z k => sh_iconst (v := 1) dc_Mod_thread_51 (by decide) k) ?_
  refine sh_mp (fun w Z k => sh_icmp_ne (tgt := 62) dc_Mod_thread_52 (by decide) (fun _ => k) (fun z => absurd z (nI_neN (n := 1) (by omega) ⟨by omega, by omega⟩))) ?_
  refine sh_mp (fun w Z k => sh_iload_n dc_Mod_thread_62 rfl rfl k) ?_
  refine sh_mp (fun w Z k => sh_iconst (v := 2) dc_Mod_thread_63 (by decide) k) ?_
  refine sh_mp (fun w Z k => sh_icmp_ne (tgt := 82) dc_Mod_thread_64 (by decide) (fun _ => k) (fun z => absurd z (nI_neN (n := 2) (by omega) ⟨by omega, by omega⟩))) ?_
  refine sh_mp (fun w Z k => sh_iload_n dc_Mod_thread_82 rfl rfl k) ?_
  refine sh_mp (fun w Z k => sh_iconst (v := 3) dc_Mod_thread_83 (by decide) k) ?_
  refine sh_mp (fun w Z k => sh_isub dc_Mod_thread_84 k) ?_
  refine sh_mp (fun w Z k => sh_istore_n dc_Mod_thread_85 rfl (by decide) k) ?_
  refine sh_mp (fun w Z k => sh_aload_n dc_Mod_thread_86 rfl rfl k) ?_
  refine sh_mget 13 dc_Mod_thread_87 (by decide) fl_Mod_45 rfl rfl rfl rfl ?_
  refine sh_mp (fun w Z k => sh_iload_n dc_Mod_thread_90 rfl rfl k) ?_
  refine sh_miald 13 (l := 8) (k := s) dc_Mod_thread_91 (by decide) (sp_sub3 s) (by omega) (by decide) ?_
  refine sh_mti (show (sh_u2 I 0 0 0) 13 s = I 13 s from (sh_u2_row (by decide) _)) ?_
  refine sh_mp (fun w Z k => sh_iload_n dc_Mod_thread_92 rfl rfl k) ?_
  refine sh_mp (fun w Z k => sh_icmp_ne (tgt := 105) dc_Mod_thread_93 (by decide) (fun _ => k) (fun z => absurd z c0_93)) ?_
  refine sh_mp (fun w Z k => sh_iconst (v := 0) dc_Mod_thread_105 (by decide) k) ?_
  refine sh_mp (fun w Z k => sh_aload_n dc_Mod_thread_106 rfl rfl k) ?_
  refine sh_mget 17 dc_Mod_thread_107 (by decide) fl_Mod_57 rfl rfl rfl rfl ?_
  refine sh_mp (fun w Z k => sh_bipush (v := 6) dc_Mod_thread_110 (by decide) k) ?_
  refine sh_mp (fun w Z k => sh_iload_n dc_Mod_thread_112 rfl rfl k) ?_
  refine sh_mp (fun w Z k => sh_imul dc_Mod_thread_113 k) ?_
  refine sh_mp (fun w Z k => sh_iload_n dc_Mod_thread_114 rfl rfl k) ?_
  refine sh_mp (fun w Z k => sh_iadd dc_Mod_thread_115 k) ?_
  refine sh_miald 17 (l := 48) (k := (6 * s) + t) dc_Mod_thread_116 (by decide) (sh_nadd (sh_nmul rfl (sp_sub3 s)) rfl) (by omega) (by decide) ?_
  refine sh_mti (show (sh_u2 I 0 0 0) 17 ((6 * s) + t) = I 17 ((6 * s) + t) from (sh_u2_row (by decide) _)) ?_
  refine sh_mp (fun w Z k => sh_iadd dc_Mod_thread_117 k) ?_
  exact sh_me (fun w => sh_ireturn dc_Mod_thread_118 rfl rfl (by decide) (by decide))
theorem mx_Mod_sync_x_1 {mq : Nat} {A : Nat → Nat} {I : sh_II} {D : sh_DD} {x : Int32} {o : Int32} (c0_9 : x < 0) : sh_mM mq A md_Mod_sync [.ref mq, .int x, .int o] I D (some (.int 0)) (sh_u2 (sh_u2 I 0 0 0) 0 0 1) D := by
  refine sh_mp (fun w Z k => sh_aload_n dc_Mod_sync_0 rfl rfl k) ?_
  refine sh_mp (fun w Z k => sh_iconst (v := 0) dc_Mod_sync_1 (by decide) k) ?_
  refine sh_mput 0 dc_Mod_sync_2 (by decide) fl_Mod_78 rfl ?_
  refine sh_mp (fun w Z k => sh_aload_n dc_Mod_sync_5 rfl rfl k) ?_
  refine sh_mp (fun w Z k => sh_iload_n dc_Mod_sync_6 rfl rfl k) ?_
  refine sh_mp (fun w Z k => sh_bipush (v := 8) dc_Mod_sync_7 (by decide) k) ?_
  refine sh_mcall (As := [.int x, .int 8]) (fun w hw => by obtain ⟨fs, hw⟩ := hw; exact sh_virt dc_Mod_sync_9 lm_Mod_out ln_Mod_82 wd_953 wd_29 rfl rfl (Nat.le_of_ble_eq_true rfl) hw rfl) (mx_Mod_out_1 (a := x) (b := 8) c0_9) ⟨(Nat.le_of_ble_eq_true rfl), (Nat.le_of_ble_eq_true rfl), (Nat.le_of_ble_eq_true rfl), (Nat.le_of_ble_eq_true rfl)⟩ ?_
  show sh_mW _ _ _ (_, _, [.int 1]) (sh_u2 I 0 0 0) D _ _ _ _ _
  refine sh_mp (fun w Z k => sh_if_ne (tgt := 25) dc_Mod_sync_12 (by decide) (fun _ => k) (fun z => absurd z (by decide))) ?_
  refine sh_mp (fun w Z k => sh_aload_n dc_Mod_sync_25 rfl rfl k) ?_
  refine sh_mp (fun w Z k => sh_iconst (v := 1) dc_Mod_sync_26 (by decide) k) ?_
  refine sh_mcall (As := [.int 1]) (fun w hw => by obtain ⟨fs, hw⟩ := hw; exact sh_virt dc_Mod_sync_27 lm_Mod_fail ln_Mod_86 wd_957 wd_30 rfl rfl (Nat.le_of_ble_eq_true rfl) hw rfl) (mx_Mod_fail_1 (c := 1)) ⟨(Nat.le_of_ble_eq_true rfl), (Nat.le_of_ble_eq_true rfl), (Nat.le_of_ble_eq_true rfl), (Nat.le_of_ble_eq_true rfl)⟩ ?_
  show sh_mW _ _ _ (_, _, [.int 0]) (sh_u2 (sh_u2 I 0 0 0) 0 0 1) D _ _ _ _ _
  exact sh_me (fun w => sh_ireturn dc_Mod_sync_30 rfl rfl (by decide) (by decide))
theorem mx_Mod_sync_x_2 {mq : Nat} {A : Nat → Nat} {I : sh_II} {D : sh_DD} {x : Int32} {o : Int32} (c0_9 : ¬ x < 0) (c1_9 : x < 8) (c2_19 : o < 0) : sh_mM mq A md_Mod_sync [.ref mq, .int x, .int o] I D (some (.int 0)) (sh_u2 (sh_u2 I 0 0 0) 0 0 1) D := by
  refine sh_mp (fun w Z k => sh_aload_n dc_Mod_sync_0 rfl rfl k) ?_
  refine sh_mp (fun w Z k => sh_iconst (v := 0) dc_Mod_sync_1 (by decide) k) ?_
  refine sh_mput 0 dc_Mod_sync_2 (by decide) fl_Mod_78 rfl ?_
  refine sh_mp (fun w Z k => sh_aload_n dc_Mod_sync_5 rfl rfl k) ?_
  refine sh_mp (fun w Z k => sh_iload_n dc_Mod_sync_6 rfl rfl k) ?_
  refine sh_mp (fun w Z k => sh_bipush (v := 8) dc_Mod_sync_7 (by decide) k) ?_
  refine sh_mcall (As := [.int x, .int 8]) (fun w hw => by obtain ⟨fs, hw⟩ := hw; exact sh_virt dc_Mod_sync_9 lm_Mod_out ln_Mod_82 wd_953 wd_29 rfl rfl (Nat.le_of_ble_eq_true rfl) hw rfl) (mx_Mod_out_2 (a := x) (b := 8) c0_9 c1_9) ⟨(Nat.le_of_ble_eq_true rfl), (Nat.le_of_ble_eq_true rfl), (Nat.le_of_ble_eq_true rfl), (Nat.le_of_ble_eq_true rfl)⟩ ?_
  show sh_mW _ _ _ (_, _, [.int 0]) (sh_u2 I 0 0 0) D _ _ _ _ _
  refine sh_mp (fun w Z k => sh_if_ne (tgt := 25) dc_Mod_sync_12 (by decide) (fun z => absurd (by decide) z) (fun _ => k)) ?_
  refine sh_mp (fun w Z k => sh_aload_n dc_Mod_sync_15 rfl rfl k) ?_
  refine sh_mp (fun w Z k => sh_iload_n dc_Mod_sync_16 rfl rfl k) ?_
  refine sh_mp (fun w Z k => sh_bipush (v := 9) dc_Mod_sync_17 (by decide) k) ?_
  refine sh_mcall (As := [.int o, .int 9]) (fun w hw => by obtain ⟨fs, hw⟩ := hw; exact sh_virt dc_Mod_sync_19 lm_Mod_out ln_Mod_82 wd_953 wd_29 rfl rfl (Nat.le_of_ble_eq_true rfl) hw rfl) (mx_Mod_out_1 (a := o) (b := 9) c2_19) ⟨(Nat.le_of_ble_eq_true rfl), (Nat.le_of_ble_eq_true rfl), (Nat.le_of_ble_eq_true rfl), (Nat.le_of_ble_eq_true rfl)⟩ ?_
  show sh_mW _ _ _ (_, _, [.int 1]) (sh_u2 I 0 0 0) D _ _ _ _ _
  refine sh_mp (fun w Z k => sh_if_eq (tgt := 31) dc_Mod_sync_22 (by decide) (fun z => absurd z (by decide)) (fun _ => k)) ?_
  refine sh_mp (fun w Z k => sh_aload_n dc_Mod_sync_25 rfl rfl k) ?_
  refine sh_mp (fun w Z k => sh_iconst (v := 1) dc_Mod_sync_26 (by decide) k) ?_
  refine sh_mcall (As := [.int 1]) (fun w hw => by obtain ⟨fs, hw⟩ := hw; exact sh_virt dc_Mod_sync_27 lm_Mod_fail ln_Mod_86 wd_957 wd_30 rfl rfl (Nat.le_of_ble_eq_true rfl) hw rfl) (mx_Mod_fail_1 (c := 1)) ⟨(Nat.le_of_ble_eq_true rfl), (Nat.le_of_ble_eq_true rfl), (Nat.le_of_ble_eq_true rfl), (Nat.le_of_ble_eq_true rfl)⟩ ?_
  show sh_mW _ _ _ (_, _, [.int 0]) (sh_u2 (sh_u2 I 0 0 0) 0 0 1) D _ _ _ _ _
  exact sh_me (fun w => sh_ireturn dc_Mod_sync_30 rfl rfl (by decide) (by decide))
theorem mx_Mod_sync_x_3 {mq : Nat} {A : Nat → Nat} {I : sh_II} {D : sh_DD} {x : Int32} {o : Int32} (c0_9 : ¬ x < 0) (c1_9 : x < 8) (c2_19 : ¬ o < 0) (c3_19 : ¬ o < 9) : sh_mM mq A md_Mod_sync [.ref mq, .int x, .int o] I D (some (.int 0)) (sh_u2 (sh_u2 I 0 0 0) 0 0 1) D := by
  refine sh_mp (fun w Z k => sh_aload_n dc_Mod_sync_0 rfl rfl k) ?_
  refine sh_mp (fun w Z k => sh_iconst (v := 0) dc_Mod_sync_1 (by decide) k) ?_
  refine sh_mput 0 dc_Mod_sync_2 (by decide) fl_Mod_78 rfl ?_
  refine sh_mp (fun w Z k => sh_aload_n dc_Mod_sync_5 rfl rfl k) ?_
  refine sh_mp (fun w Z k => sh_iload_n dc_Mod_sync_6 rfl rfl k) ?_
  refine sh_mp (fun w Z k => sh_bipush (v := 8) dc_Mod_sync_7 (by decide) k) ?_
  refine sh_mcall (As := [.int x, .int 8]) (fun w hw => by obtain ⟨fs, hw⟩ := hw; exact sh_virt dc_Mod_sync_9 lm_Mod_out ln_Mod_82 wd_953 wd_29 rfl rfl (Nat.le_of_ble_eq_true rfl) hw rfl) (mx_Mod_out_2 (a := x) (b := 8) c0_9 c1_9) ⟨(Nat.le_of_ble_eq_true rfl), (Nat.le_of_ble_eq_true rfl), (Nat.le_of_ble_eq_true rfl), (Nat.le_of_ble_eq_true rfl)⟩ ?_
  show sh_mW _ _ _ (_, _, [.int 0]) (sh_u2 I 0 0 0) D _ _ _ _ _
  refine sh_mp (fun w Z k => sh_if_ne (tgt := 25) dc_Mod_sync_12 (by decide) (fun z => absurd (by decide) z) (fun _ => k)) ?_
  refine sh_mp (fun w Z k => sh_aload_n dc_Mod_sync_15 rfl rfl k) ?_
  refine sh_mp (fun w Z k => sh_iload_n dc_Mod_sync_16 rfl rfl k) ?_
  refine sh_mp (fun w Z k => sh_bipush (v := 9) dc_Mod_sync_17 (by decide) k) ?_
  refine sh_mcall (As := [.int o, .int 9]) (fun w hw => by obtain ⟨fs, hw⟩ := hw; exact sh_virt dc_Mod_sync_19 lm_Mod_out ln_Mod_82 wd_953 wd_29 rfl rfl (Nat.le_of_ble_eq_true rfl) hw rfl) (mx_Mod_out_3 (a := o) (b := 9) c2_19 c3_19) ⟨(Nat.le_of_ble_eq_true rfl), (Nat.le_of_ble_eq_true rfl), (Nat.le_of_ble_eq_true rfl), (Nat.le_of_ble_eq_true rfl)⟩ ?_
  show sh_mW _ _ _ (_, _, [.int 1]) (sh_u2 I 0 0 0) D _ _ _ _ _
  refine sh_mp (fun w Z k => sh_if_eq (tgt := 31) dc_Mod_sync_22 (by decide) (fun z => absurd z (by decide)) (fun _ => k)) ?_
  refine sh_mp (fun w Z k => sh_aload_n dc_Mod_sync_25 rfl rfl k) ?_
  refine sh_mp (fun w Z k => sh_iconst (v := 1) dc_Mod_sync_26 (by decide) k) ?_
  refine sh_mcall (As := [.int 1]) (fun w hw => by obtain ⟨fs, hw⟩ := hw; exact sh_virt dc_Mod_sync_27 lm_Mod_fail ln_Mod_86 wd_957 wd_30 rfl rfl (Nat.le_of_ble_eq_true rfl) hw rfl) (mx_Mod_fail_1 (c := 1)) ⟨(Nat.le_of_ble_eq_true rfl), (Nat.le_of_ble_eq_true rfl), (Nat.le_of_ble_eq_true rfl), (Nat.le_of_ble_eq_true rfl)⟩ ?_
  show sh_mW _ _ _ (_, _, [.int 0]) (sh_u2 (sh_u2 I 0 0 0) 0 0 1) D _ _ _ _ _
  exact sh_me (fun w => sh_ireturn dc_Mod_sync_30 rfl rfl (by decide) (by decide))
theorem mx_Mod_sync_x_4 {mq : Nat} {A : Nat → Nat} {I : sh_II} {D : sh_DD} {x : Int32} {o : Int32} (c0_9 : ¬ x < 0) (c1_9 : ¬ x < 8) : sh_mM mq A md_Mod_sync [.ref mq, .int x, .int o] I D (some (.int 0)) (sh_u2 (sh_u2 I 0 0 0) 0 0 1) D := by
  refine sh_mp (fun w Z k => sh_aload_n dc_Mod_sync_0 rfl rfl k) ?_
  refine sh_mp (fun w Z k => sh_iconst (v := 0) dc_Mod_sync_1 (by decide) k) ?_
  refine sh_mput 0 dc_Mod_sync_2 (by decide) fl_Mod_78 rfl ?_
  refine sh_mp (fun w Z k => sh_aload_n dc_Mod_sync_5 rfl rfl k) ?_
  refine sh_mp (fun w Z k => sh_iload_n dc_Mod_sync_6 rfl rfl k) ?_
  refine sh_mp (fun w Z k => sh_bipush (v := 8) dc_Mod_sync_7 (by decide) k) ?_
  refine sh_mcall (As := [.int x, .int 8]) (fun w hw => by obtain ⟨fs, hw⟩ := hw; exact sh_virt dc_Mod_sync_9 lm_Mod_out ln_Mod_82 wd_953 wd_29 rfl rfl (Nat.le_of_ble_eq_true rfl) hw rfl) (mx_Mod_out_3 (a := x) (b := 8) c0_9 c1_9) ⟨(Nat.le_of_ble_eq_true rfl), (Nat.le_of_ble_eq_true rfl), (Nat.le_of_ble_eq_true rfl), (Nat.le_of_ble_eq_true rfl)⟩ ?_
  show sh_mW _ _ _ (_, _, [.int 1]) (sh_u2 I 0 0 0) D _ _ _ _ _
  refine sh_mp (fun w Z k => sh_if_ne (tgt := 25) dc_Mod_sync_12 (by decide) (fun _ => k) (fun z => absurd z (by decide))) ?_
  refine sh_mp (fun w Z k => sh_aload_n dc_Mod_sync_25 rfl rfl k) ?_
  refine sh_mp (fun w Z k => sh_iconst (v := 1) dc_Mod_sync_26 (by decide) k) ?_
  refine sh_mcall (As := [.int 1]) (fun w hw => by obtain ⟨fs, hw⟩ := hw; exact sh_virt dc_Mod_sync_27 lm_Mod_fail ln_Mod_86 wd_957 wd_30 rfl rfl (Nat.le_of_ble_eq_true rfl) hw rfl) (mx_Mod_fail_1 (c := 1)) ⟨(Nat.le_of_ble_eq_true rfl), (Nat.le_of_ble_eq_true rfl), (Nat.le_of_ble_eq_true rfl), (Nat.le_of_ble_eq_true rfl)⟩ ?_
  show sh_mW _ _ _ (_, _, [.int 0]) (sh_u2 (sh_u2 I 0 0 0) 0 0 1) D _ _ _ _ _
  exact sh_me (fun w => sh_ireturn dc_Mod_sync_30 rfl rfl (by decide) (by decide))
theorem mx_Mod_sync_0_1 {mq : Nat} {A : Nat → Nat} {I : sh_II} {D : sh_DD} {s : Nat} (hs : s < 8) (c0_37 : 0 ≤ (I 12 s)) : sh_mM mq A md_Mod_sync [.ref mq, .int (nI s), .int 0] I D (some (.int (I 12 s))) (sh_u2 I 0 0 0) D := by
  refine sh_mp (fun w Z k => sh_aload_n dc_Mod_sync_0 rfl rfl k) ?_
  refine sh_mp (fun w Z k => sh_iconst (v := 0) dc_Mod_sync_1 (by decide) k) ?_
  refine sh_mput 0 dc_Mod_sync_2 (by decide) fl_Mod_78 rfl ?_
  refine sh_mp (fun w Z k => sh_aload_n dc_Mod_sync_5 rfl rfl k) ?_
  refine sh_mp (fun w Z k => sh_iload_n dc_Mod_sync_6 rfl rfl k) ?_
  refine sh_mp (fun w Z k => sh_bipush (v := 8) dc_Mod_sync_7 (by decide) k) ?_
  refine sh_mcall (As := [.int (nI s), .int 8]) (fun w hw => by obtain ⟨fs, hw⟩ := hw; exact sh_virt dc_Mod_sync_9 lm_Mod_out ln_Mod_82 wd_953 wd_29 rfl rfl (Nat.le_of_ble_eq_true rfl) hw rfl) (mx_Mod_out_2 (a := nI s) (b := 8) (nI_pos (by omega)) (sp_lt8 hs)) ⟨(Nat.le_of_ble_eq_true rfl), (Nat.le_of_ble_eq_true rfl), (Nat.le_of_ble_eq_true rfl), (Nat.le_of_ble_eq_true rfl)⟩ ?_
  show sh_mW _ _ _ (_, _, [.int 0]) (sh_u2 I 0 0 0) D _ _ _ _ _
  refine sh_mp (fun w Z k => sh_if_ne (tgt := 25) dc_Mod_sync_12 (by decide) (fun z => absurd (by decide) z) (fun _ => k)) ?_
  refine sh_mp (fun w Z k => sh_aload_n dc_Mod_sync_15 rfl rfl k) ?_
  refine sh_mp (fun w Z k => sh_iload_n dc_Mod_sync_16 rfl rfl k) ?_
  refine sh_mp (fun w Z k => sh_bipush (v := 9) dc_Mod_sync_17 (by decide) k) ?_
  refine sh_mcall (As := [.int 0, .int 9]) (fun w hw => by obtain ⟨fs, hw⟩ := hw; exact sh_virt dc_Mod_sync_19 lm_Mod_out ln_Mod_82 wd_953 wd_29 rfl rfl (Nat.le_of_ble_eq_true rfl) hw rfl) (mx_Mod_out_2 (a := 0) (b := 9) (by decide) (by decide)) ⟨(Nat.le_of_ble_eq_true rfl), (Nat.le_of_ble_eq_true rfl), (Nat.le_of_ble_eq_true rfl), (Nat.le_of_ble_eq_true rfl)⟩ ?_
  show sh_mW _ _ _ (_, _, [.int 0]) (sh_u2 I 0 0 0) D _ _ _ _ _
  refine sh_mp (fun w Z k => sh_if_eq (tgt := 31) dc_Mod_sync_22 (by decide) (fun _ => k) (fun z => absurd (by decide) z)) ?_
  refine sh_mp (fun w Z k => sh_aload_n dc_Mod_sync_31 rfl rfl k) ?_
  refine sh_mget 12 dc_Mod_sync_32 (by decide) fl_Mod_42 rfl rfl rfl rfl ?_
  refine sh_mp (fun w Z k => sh_iload_n dc_Mod_sync_35 rfl rfl k) ?_
  refine sh_miald 12 (l := 8) (k := s) dc_Mod_sync_36 (by decide) rfl (by omega) (by decide) ?_
  refine sh_mti (show (sh_u2 I 0 0 0) 12 s = I 12 s from (sh_u2_row (by decide) _)) ?_
  refine sh_mp (fun w Z k => sh_if_ge (tgt := 46) dc_Mod_sync_37 (by decide) (fun _ => k) (fun z => absurd c0_37 z)) ?_
  refine sh_mp (fun w Z k => sh_iload_n dc_Mod_sync_46 rfl rfl k) ?_
  refine sh_mp (fun w Z k => sh_if_ne (tgt := 57) dc_Mod_sync_47 (by decide) (fun z => absurd (by decide) z) (fun _ => k)) ?_
  refine sh_mp (fun w Z k => sh_aload_n dc_Mod_sync_50 rfl rfl k) ?_
  refine sh_mget 12 dc_Mod_sync_51 (by decide) fl_Mod_42 rfl rfl rfl rfl ?_
  refine sh_mp (fun w Z k => sh_iload_n dc_Mod_sync_54 rfl rfl k) ?_
  refine sh_miald 12 (l := 8) (k := s) dc_Mod_sync_55 (by decide) rfl (by omega) (by decide) ?_
  refine sh_mti (show (sh_u2 I 0 0 0) 12 s = I 12 s from (sh_u2_row (by decide) _)) ?_
  exact sh_me (fun w => sh_ireturn dc_Mod_sync_56 rfl rfl (by decide) (by decide))
theorem mx_Mod_sync_0_2 {mq : Nat} {A : Nat → Nat} {I : sh_II} {D : sh_DD} {s : Nat} (hs : s < 8) (c0_37 : ¬ 0 ≤ (I 12 s)) : sh_mM mq A md_Mod_sync [.ref mq, .int (nI s), .int 0] I D (some (.int 0)) (sh_u2 (sh_u2 I 0 0 0) 0 0 2) D := by
  refine sh_mp (fun w Z k => sh_aload_n dc_Mod_sync_0 rfl rfl k) ?_
  refine sh_mp (fun w Z k => sh_iconst (v := 0) dc_Mod_sync_1 (by decide) k) ?_
  refine sh_mput 0 dc_Mod_sync_2 (by decide) fl_Mod_78 rfl ?_
  refine sh_mp (fun w Z k => sh_aload_n dc_Mod_sync_5 rfl rfl k) ?_
  refine sh_mp (fun w Z k => sh_iload_n dc_Mod_sync_6 rfl rfl k) ?_
  refine sh_mp (fun w Z k => sh_bipush (v := 8) dc_Mod_sync_7 (by decide) k) ?_
  refine sh_mcall (As := [.int (nI s), .int 8]) (fun w hw => by obtain ⟨fs, hw⟩ := hw; exact sh_virt dc_Mod_sync_9 lm_Mod_out ln_Mod_82 wd_953 wd_29 rfl rfl (Nat.le_of_ble_eq_true rfl) hw rfl) (mx_Mod_out_2 (a := nI s) (b := 8) (nI_pos (by omega)) (sp_lt8 hs)) ⟨(Nat.le_of_ble_eq_true rfl), (Nat.le_of_ble_eq_true rfl), (Nat.le_of_ble_eq_true rfl), (Nat.le_of_ble_eq_true rfl)⟩ ?_
  show sh_mW _ _ _ (_, _, [.int 0]) (sh_u2 I 0 0 0) D _ _ _ _ _
  refine sh_mp (fun w Z k => sh_if_ne (tgt := 25) dc_Mod_sync_12 (by decide) (fun z => absurd (by decide) z) (fun _ => k)) ?_
  refine sh_mp (fun w Z k => sh_aload_n dc_Mod_sync_15 rfl rfl k) ?_
  refine sh_mp (fun w Z k => sh_iload_n dc_Mod_sync_16 rfl rfl k) ?_
  refine sh_mp (fun w Z k => sh_bipush (v := 9) dc_Mod_sync_17 (by decide) k) ?_
  refine sh_mcall (As := [.int 0, .int 9]) (fun w hw => by obtain ⟨fs, hw⟩ := hw; exact sh_virt dc_Mod_sync_19 lm_Mod_out ln_Mod_82 wd_953 wd_29 rfl rfl (Nat.le_of_ble_eq_true rfl) hw rfl) (mx_Mod_out_2 (a := 0) (b := 9) (by decide) (by decide)) ⟨(Nat.le_of_ble_eq_true rfl), (Nat.le_of_ble_eq_true rfl), (Nat.le_of_ble_eq_true rfl), (Nat.le_of_ble_eq_true rfl)⟩ ?_
  show sh_mW _ _ _ (_, _, [.int 0]) (sh_u2 I 0 0 0) D _ _ _ _ _
  refine sh_mp (fun w Z k => sh_if_eq (tgt := 31) dc_Mod_sync_22 (by decide) (fun _ => k) (fun z => absurd (by decide) z)) ?_
  refine sh_mp (fun w Z k => sh_aload_n dc_Mod_sync_31 rfl rfl k) ?_
  refine sh_mget 12 dc_Mod_sync_32 (by decide) fl_Mod_42 rfl rfl rfl rfl ?_
  refine sh_mp (fun w Z k => sh_iload_n dc_Mod_sync_35 rfl rfl k) ?_
  refine sh_miald 12 (l := 8) (k := s) dc_Mod_sync_36 (by decide) rfl (by omega) (by decide) ?_
  refine sh_mti (show (sh_u2 I 0 0 0) 12 s = I 12 s from (sh_u2_row (by decide) _)) ?_
  refine sh_mp (fun w Z k => sh_if_ge (tgt := 46) dc_Mod_sync_37 (by decide) (fun z => absurd z c0_37) (fun _ => k)) ?_
  refine sh_mp (fun w Z k => sh_aload_n dc_Mod_sync_40 rfl rfl k) ?_
  refine sh_mp (fun w Z k => sh_iconst (v := 2) dc_Mod_sync_41 (by decide) k) ?_
  refine sh_mcall (As := [.int 2]) (fun w hw => by obtain ⟨fs, hw⟩ := hw; exact sh_virt dc_Mod_sync_42 lm_Mod_fail ln_Mod_86 wd_957 wd_30 rfl rfl (Nat.le_of_ble_eq_true rfl) hw rfl) (mx_Mod_fail_1 (c := 2)) ⟨(Nat.le_of_ble_eq_true rfl), (Nat.le_of_ble_eq_true rfl), (Nat.le_of_ble_eq_true rfl), (Nat.le_of_ble_eq_true rfl)⟩ ?_
  show sh_mW _ _ _ (_, _, [.int 0]) (sh_u2 (sh_u2 I 0 0 0) 0 0 2) D _ _ _ _ _
  exact sh_me (fun w => sh_ireturn dc_Mod_sync_45 rfl rfl (by decide) (by decide))
theorem mx_Mod_sync_1_1 {mq : Nat} {A : Nat → Nat} {I : sh_II} {D : sh_DD} {s : Nat} (hs : s < 8) (c0_37 : 0 ≤ (I 12 s)) : sh_mM mq A md_Mod_sync [.ref mq, .int (nI s), .int 1] I D (some (.int (I 19 s))) (sh_u2 I 0 0 0) D := by
  refine sh_mp (fun w Z k => sh_aload_n dc_Mod_sync_0 rfl rfl k) ?_
  refine sh_mp (fun w Z k => sh_iconst (v := 0) dc_Mod_sync_1 (by decide) k) ?_
  refine sh_mput 0 dc_Mod_sync_2 (by decide) fl_Mod_78 rfl ?_
  refine sh_mp (fun w Z k => sh_aload_n dc_Mod_sync_5 rfl rfl k) ?_
  refine sh_mp (fun w Z k => sh_iload_n dc_Mod_sync_6 rfl rfl k) ?_
  refine sh_mp (fun w Z k => sh_bipush (v := 8) dc_Mod_sync_7 (by decide) k) ?_
  refine sh_mcall (As := [.int (nI s), .int 8]) (fun w hw => by obtain ⟨fs, hw⟩ := hw; exact sh_virt dc_Mod_sync_9 lm_Mod_out ln_Mod_82 wd_953 wd_29 rfl rfl (Nat.le_of_ble_eq_true rfl) hw rfl) (mx_Mod_out_2 (a := nI s) (b := 8) (nI_pos (by omega)) (sp_lt8 hs)) ⟨(Nat.le_of_ble_eq_true rfl), (Nat.le_of_ble_eq_true rfl), (Nat.le_of_ble_eq_true rfl), (Nat.le_of_ble_eq_true rfl)⟩ ?_
  show sh_mW _ _ _ (_, _, [.int 0]) (sh_u2 I 0 0 0) D _ _ _ _ _
  refine sh_mp (fun w Z k => sh_if_ne (tgt := 25) dc_Mod_sync_12 (by decide) (fun z => absurd (by decide) z) (fun _ => k)) ?_
  refine sh_mp (fun w Z k => sh_aload_n dc_Mod_sync_15 rfl rfl k) ?_
  refine sh_mp (fun w Z k => sh_iload_n dc_Mod_sync_16 rfl rfl k) ?_
  refine sh_mp (fun w Z k => sh_bipush (v := 9) dc_Mod_sync_17 (by decide) k) ?_
  refine sh_mcall (As := [.int 1, .int 9]) (fun w hw => by obtain ⟨fs, hw⟩ := hw; exact sh_virt dc_Mod_sync_19 lm_Mod_out ln_Mod_82 wd_953 wd_29 rfl rfl (Nat.le_of_ble_eq_true rfl) hw rfl) (mx_Mod_out_2 (a := 1) (b := 9) (by decide) (by decide)) ⟨(Nat.le_of_ble_eq_true rfl), (Nat.le_of_ble_eq_true rfl), (Nat.le_of_ble_eq_true rfl), (Nat.le_of_ble_eq_true rfl)⟩ ?_
  show sh_mW _ _ _ (_, _, [.int 0]) (sh_u2 I 0 0 0) D _ _ _ _ _
  refine sh_mp (fun w Z k => sh_if_eq (tgt := 31) dc_Mod_sync_22 (by decide) (fun _ => k) (fun z => absurd (by decide) z)) ?_
  refine sh_mp (fun w Z k => sh_aload_n dc_Mod_sync_31 rfl rfl k) ?_
  refine sh_mget 12 dc_Mod_sync_32 (by decide) fl_Mod_42 rfl rfl rfl rfl ?_
  refine sh_mp (fun w Z k => sh_iload_n dc_Mod_sync_35 rfl rfl k) ?_
  refine sh_miald 12 (l := 8) (k := s) dc_Mod_sync_36 (by decide) rfl (by omega) (by decide) ?_
  refine sh_mti (show (sh_u2 I 0 0 0) 12 s = I 12 s from (sh_u2_row (by decide) _)) ?_
  refine sh_mp (fun w Z k => sh_if_ge (tgt := 46) dc_Mod_sync_37 (by decide) (fun _ => k) (fun z => absurd c0_37 z)) ?_
  refine sh_mp (fun w Z k => sh_iload_n dc_Mod_sync_46 rfl rfl k) ?_
  refine sh_mp (fun w Z k => sh_if_ne (tgt := 57) dc_Mod_sync_47 (by decide) (fun _ => k) (fun z => absurd z (by decide))) ?_
  refine sh_mp (fun w Z k => sh_iload_n dc_Mod_sync_57 rfl rfl k) ?_
  refine sh_mp (fun w Z k => sh_iconst (v := 1) dc_Mod_sync_58 (by decide) k) ?_
  refine sh_mp (fun w Z k => sh_icmp_ne (tgt := 69) dc_Mod_sync_59 (by decide) (fun z => absurd (by decide) z) (fun _ => k)) ?_
  refine sh_mp (fun w Z k => sh_aload_n dc_Mod_sync_62 rfl rfl k) ?_
  refine sh_mget 19 dc_Mod_sync_63 (by decide) fl_Mod_63 rfl rfl rfl rfl ?_
  refine sh_mp (fun w Z k => sh_iload_n dc_Mod_sync_66 rfl rfl k) ?_
  refine sh_miald 19 (l := 8) (k := s) dc_Mod_sync_67 (by decide) rfl (by omega) (by decide) ?_
  refine sh_mti (show (sh_u2 I 0 0 0) 19 s = I 19 s from (sh_u2_row (by decide) _)) ?_
  exact sh_me (fun w => sh_ireturn dc_Mod_sync_68 rfl rfl (by decide) (by decide))
theorem mx_Mod_sync_1_2 {mq : Nat} {A : Nat → Nat} {I : sh_II} {D : sh_DD} {s : Nat} (hs : s < 8) (c0_37 : ¬ 0 ≤ (I 12 s)) : sh_mM mq A md_Mod_sync [.ref mq, .int (nI s), .int 1] I D (some (.int 0)) (sh_u2 (sh_u2 I 0 0 0) 0 0 2) D := by
  refine sh_mp (fun w Z k => sh_aload_n dc_Mod_sync_0 rfl rfl k) ?_
  refine sh_mp (fun w Z k => sh_iconst (v := 0) dc_Mod_sync_1 (by decide) k) ?_
  refine sh_mput 0 dc_Mod_sync_2 (by decide) fl_Mod_78 rfl ?_
  refine sh_mp (fun w Z k => sh_aload_n dc_Mod_sync_5 rfl rfl k) ?_
  refine sh_mp (fun w Z k => sh_iload_n dc_Mod_sync_6 rfl rfl k) ?_
  refine sh_mp (fun w Z k => sh_bipush (v := 8) dc_Mod_sync_7 (by decide) k) ?_
  refine sh_mcall (As := [.int (nI s), .int 8]) (fun w hw => by obtain ⟨fs, hw⟩ := hw; exact sh_virt dc_Mod_sync_9 lm_Mod_out ln_Mod_82 wd_953 wd_29 rfl rfl (Nat.le_of_ble_eq_true rfl) hw rfl) (mx_Mod_out_2 (a := nI s) (b := 8) (nI_pos (by omega)) (sp_lt8 hs)) ⟨(Nat.le_of_ble_eq_true rfl), (Nat.le_of_ble_eq_true rfl), (Nat.le_of_ble_eq_true rfl), (Nat.le_of_ble_eq_true rfl)⟩ ?_
  show sh_mW _ _ _ (_, _, [.int 0]) (sh_u2 I 0 0 0) D _ _ _ _ _
  refine sh_mp (fun w Z k => sh_if_ne (tgt := 25) dc_Mod_sync_12 (by decide) (fun z => absurd (by decide) z) (fun _ => k)) ?_
  refine sh_mp (fun w Z k => sh_aload_n dc_Mod_sync_15 rfl rfl k) ?_
  refine sh_mp (fun w Z k => sh_iload_n dc_Mod_sync_16 rfl rfl k) ?_
  refine sh_mp (fun w Z k => sh_bipush (v := 9) dc_Mod_sync_17 (by decide) k) ?_
  refine sh_mcall (As := [.int 1, .int 9]) (fun w hw => by obtain ⟨fs, hw⟩ := hw; exact sh_virt dc_Mod_sync_19 lm_Mod_out ln_Mod_82 wd_953 wd_29 rfl rfl (Nat.le_of_ble_eq_true rfl) hw rfl) (mx_Mod_out_2 (a := 1) (b := 9) (by decide) (by decide)) ⟨(Nat.le_of_ble_eq_true rfl), (Nat.le_of_ble_eq_true rfl), (Nat.le_of_ble_eq_true rfl), (Nat.le_of_ble_eq_true rfl)⟩ ?_
  show sh_mW _ _ _ (_, _, [.int 0]) (sh_u2 I 0 0 0) D _ _ _ _ _
  refine sh_mp (fun w Z k => sh_if_eq (tgt := 31) dc_Mod_sync_22 (by decide) (fun _ => k) (fun z => absurd (by decide) z)) ?_
  refine sh_mp (fun w Z k => sh_aload_n dc_Mod_sync_31 rfl rfl k) ?_
  refine sh_mget 12 dc_Mod_sync_32 (by decide) fl_Mod_42 rfl rfl rfl rfl ?_
  refine sh_mp (fun w Z k => sh_iload_n dc_Mod_sync_35 rfl rfl k) ?_
  refine sh_miald 12 (l := 8) (k := s) dc_Mod_sync_36 (by decide) rfl (by omega) (by decide) ?_
  refine sh_mti (show (sh_u2 I 0 0 0) 12 s = I 12 s from (sh_u2_row (by decide) _)) ?_
  refine sh_mp (fun w Z k => sh_if_ge (tgt := 46) dc_Mod_sync_37 (by decide) (fun z => absurd z c0_37) (fun _ => k)) ?_
  refine sh_mp (fun w Z k => sh_aload_n dc_Mod_sync_40 rfl rfl k) ?_
  refine sh_mp (fun w Z k => sh_iconst (v := 2) dc_Mod_sync_41 (by decide) k) ?_
  refine sh_mcall (As := [.int 2]) (fun w hw => by obtain ⟨fs, hw⟩ := hw; exact sh_virt dc_Mod_sync_42 lm_Mod_fail ln_Mod_86 wd_957 wd_30 rfl rfl (Nat.le_of_ble_eq_true rfl) hw rfl) (mx_Mod_fail_1 (c := 2)) ⟨(Nat.le_of_ble_eq_true rfl), (Nat.le_of_ble_eq_true rfl), (Nat.le_of_ble_eq_true rfl), (Nat.le_of_ble_eq_true rfl)⟩ ?_
  show sh_mW _ _ _ (_, _, [.int 0]) (sh_u2 (sh_u2 I 0 0 0) 0 0 2) D _ _ _ _ _
  exact sh_me (fun w => sh_ireturn dc_Mod_sync_45 rfl rfl (by decide) (by decide))
theorem mx_Mod_sync_2_1 {mq : Nat} {A : Nat → Nat} {I : sh_II} {D : sh_DD} {s : Nat} (hs : s < 8) (c0_37 : 0 ≤ (I 12 s)) (c1_91 : (I 19 s) ≤ 0) : sh_mM mq A md_Mod_sync [.ref mq, .int (nI s), .int 2] I D (some (.int (-1))) (sh_u2 I 0 0 0) D := by
  refine sh_mp (fun w Z k => sh_aload_n dc_Mod_sync_0 rfl rfl k) ?_
  refine sh_mp (fun w Z k => sh_iconst (v := 0) dc_Mod_sync_1 (by decide) k) ?_
  refine sh_mput 0 dc_Mod_sync_2 (by decide) fl_Mod_78 rfl ?_
  refine sh_mp (fun w Z k => sh_aload_n dc_Mod_sync_5 rfl rfl k) ?_
  refine sh_mp (fun w Z k => sh_iload_n dc_Mod_sync_6 rfl rfl k) ?_
  refine sh_mp (fun w Z k => sh_bipush (v := 8) dc_Mod_sync_7 (by decide) k) ?_
  refine sh_mcall (As := [.int (nI s), .int 8]) (fun w hw => by obtain ⟨fs, hw⟩ := hw; exact sh_virt dc_Mod_sync_9 lm_Mod_out ln_Mod_82 wd_953 wd_29 rfl rfl (Nat.le_of_ble_eq_true rfl) hw rfl) (mx_Mod_out_2 (a := nI s) (b := 8) (nI_pos (by omega)) (sp_lt8 hs)) ⟨(Nat.le_of_ble_eq_true rfl), (Nat.le_of_ble_eq_true rfl), (Nat.le_of_ble_eq_true rfl), (Nat.le_of_ble_eq_true rfl)⟩ ?_
  show sh_mW _ _ _ (_, _, [.int 0]) (sh_u2 I 0 0 0) D _ _ _ _ _
  refine sh_mp (fun w Z k => sh_if_ne (tgt := 25) dc_Mod_sync_12 (by decide) (fun z => absurd (by decide) z) (fun _ => k)) ?_
  refine sh_mp (fun w Z k => sh_aload_n dc_Mod_sync_15 rfl rfl k) ?_
  refine sh_mp (fun w Z k => sh_iload_n dc_Mod_sync_16 rfl rfl k) ?_
  refine sh_mp (fun w Z k => sh_bipush (v := 9) dc_Mod_sync_17 (by decide) k) ?_
  refine sh_mcall (As := [.int 2, .int 9]) (fun w hw => by obtain ⟨fs, hw⟩ := hw; exact sh_virt dc_Mod_sync_19 lm_Mod_out ln_Mod_82 wd_953 wd_29 rfl rfl (Nat.le_of_ble_eq_true rfl) hw rfl) (mx_Mod_out_2 (a := 2) (b := 9) (by decide) (by decide)) ⟨(Nat.le_of_ble_eq_true rfl), (Nat.le_of_ble_eq_true rfl), (Nat.le_of_ble_eq_true rfl), (Nat.le_of_ble_eq_true rfl)⟩ ?_
  show sh_mW _ _ _ (_, _, [.int 0]) (sh_u2 I 0 0 0) D _ _ _ _ _
  refine sh_mp (fun w Z k => sh_if_eq (tgt := 31) dc_Mod_sync_22 (by decide) (fun _ => k) (fun z => absurd (by decide) z)) ?_
  refine sh_mp (fun w Z k => sh_aload_n dc_Mod_sync_31 rfl rfl k) ?_
  refine sh_mget 12 dc_Mod_sync_32 (by decide) fl_Mod_42 rfl rfl rfl rfl ?_
  refine sh_mp (fun w Z k => sh_iload_n dc_Mod_sync_35 rfl rfl k) ?_
  refine sh_miald 12 (l := 8) (k := s) dc_Mod_sync_36 (by decide) rfl (by omega) (by decide) ?_
  refine sh_mti (show (sh_u2 I 0 0 0) 12 s = I 12 s from (sh_u2_row (by decide) _)) ?_
  refine sh_mp (fun w Z k => sh_if_ge (tgt := 46) dc_Mod_sync_37 (by decide) (fun _ => k) (fun z => absurd c0_37 z)) ?_
  refine sh_mp (fun w Z k => sh_iload_n dc_Mod_sync_46 rfl rfl k) ?_
  refine sh_mp (fun w Z k => sh_if_ne (tgt := 57) dc_Mod_sync_47 (by decide) (fun _ => k) (fun z => absurd z (by decide))) ?_
  refine sh_mp (fun w Z k => sh_iload_n dc_Mod_sync_57 rfl rfl k) ?_
  refine sh_mp (fun w Z k => sh_iconst (v := 1) dc_Mod_sync_58 (by decide) k) ?_
  refine sh_mp (fun w Z k => sh_icmp_ne (tgt := 69) dc_Mod_sync_59 (by decide) (fun _ => k) (fun z => absurd z (by decide))) ?_
  refine sh_mp (fun w Z k => sh_iload_n dc_Mod_sync_69 rfl rfl k) ?_
  refine sh_mp (fun w Z k => sh_bipush (v := 8) dc_Mod_sync_70 (by decide) k) ?_
  refine sh_mp (fun w Z k => sh_icmp_ne (tgt := 82) dc_Mod_sync_72 (by decide) (fun _ => k) (fun z => absurd z (by decide))) ?_
  refine sh_mp (fun w Z k => sh_iload_n dc_Mod_sync_82 rfl rfl k) ?_
  refine sh_mp (fun w Z k => sh_iconst (v := 2) dc_Mod_sync_83 (by decide) k) ?_
  refine sh_mp (fun w Z k => sh_isub dc_Mod_sync_84 k) ?_
  refine sh_mti (show (2 - 2 : Int32) = 0 from by decide) ?_
  refine sh_mp (fun w Z k => sh_aload_n dc_Mod_sync_85 rfl rfl k) ?_
  refine sh_mget 19 dc_Mod_sync_86 (by decide) fl_Mod_63 rfl rfl rfl rfl ?_
  refine sh_mp (fun w Z k => sh_iload_n dc_Mod_sync_89 rfl rfl k) ?_
  refine sh_miald 19 (l := 8) (k := s) dc_Mod_sync_90 (by decide) rfl (by omega) (by decide) ?_
  refine sh_mti (show (sh_u2 I 0 0 0) 19 s = I 19 s from (sh_u2_row (by decide) _)) ?_
  refine sh_mp (fun w Z k => sh_icmp_ge (tgt := 110) dc_Mod_sync_91 (by decide) (fun _ => k) (fun z => absurd c1_91 z)) ?_
  refine sh_mp (fun w Z k => sh_iconst (v := (-1)) dc_Mod_sync_110 (by decide) k) ?_
  exact sh_me (fun w => sh_ireturn dc_Mod_sync_111 rfl rfl (by decide) (by decide))
theorem mx_Mod_sync_2_2 {mq : Nat} {A : Nat → Nat} {I : sh_II} {D : sh_DD} {s : Nat} (hs : s < 8) (c0_37 : 0 ≤ (I 12 s)) (c1_91 : ¬ (I 19 s) ≤ 0) : sh_mM mq A md_Mod_sync [.ref mq, .int (nI s), .int 2] I D (some (.int (I 18 ((6 * s) + 0)))) (sh_u2 I 0 0 0) D := by
  refine sh_mp (fun w Z k => sh_aload_n dc_Mod_sync_0 rfl rfl k) ?_
  refine sh_mp (fun w Z k => sh_iconst (v := 0) dc_Mod_sync_1 (by decide) k) ?_
  refine sh_mput 0 dc_Mod_sync_2 (by decide) fl_Mod_78 rfl ?_
  refine sh_mp (fun w Z k => sh_aload_n dc_Mod_sync_5 rfl rfl k) ?_
  refine sh_mp (fun w Z k => sh_iload_n dc_Mod_sync_6 rfl rfl k) ?_
  refine sh_mp (fun w Z k => sh_bipush (v := 8) dc_Mod_sync_7 (by decide) k) ?_
  refine sh_mcall (As := [.int (nI s), .int 8]) (fun w hw => by obtain ⟨fs, hw⟩ := hw; exact sh_virt dc_Mod_sync_9 lm_Mod_out ln_Mod_82 wd_953 wd_29 rfl rfl (Nat.le_of_ble_eq_true rfl) hw rfl) (mx_Mod_out_2 (a := nI s) (b := 8) (nI_pos (by omega)) (sp_lt8 hs)) ⟨(Nat.le_of_ble_eq_true rfl), (Nat.le_of_ble_eq_true rfl), (Nat.le_of_ble_eq_true rfl), (Nat.le_of_ble_eq_true rfl)⟩ ?_
  show sh_mW _ _ _ (_, _, [.int 0]) (sh_u2 I 0 0 0) D _ _ _ _ _
  refine sh_mp (fun w Z k => sh_if_ne (tgt := 25) dc_Mod_sync_12 (by decide) (fun z => absurd (by decide) z) (fun _ => k)) ?_
  refine sh_mp (fun w Z k => sh_aload_n dc_Mod_sync_15 rfl rfl k) ?_
  refine sh_mp (fun w Z k => sh_iload_n dc_Mod_sync_16 rfl rfl k) ?_
  refine sh_mp (fun w Z k => sh_bipush (v := 9) dc_Mod_sync_17 (by decide) k) ?_
  refine sh_mcall (As := [.int 2, .int 9]) (fun w hw => by obtain ⟨fs, hw⟩ := hw; exact sh_virt dc_Mod_sync_19 lm_Mod_out ln_Mod_82 wd_953 wd_29 rfl rfl (Nat.le_of_ble_eq_true rfl) hw rfl) (mx_Mod_out_2 (a := 2) (b := 9) (by decide) (by decide)) ⟨(Nat.le_of_ble_eq_true rfl), (Nat.le_of_ble_eq_true rfl), (Nat.le_of_ble_eq_true rfl), (Nat.le_of_ble_eq_true rfl)⟩ ?_
  show sh_mW _ _ _ (_, _, [.int 0]) (sh_u2 I 0 0 0) D _ _ _ _ _
  refine sh_mp (fun w Z k => sh_if_eq (tgt := 31) dc_Mod_sync_22 (by decide) (fun _ => k) (fun z => absurd (by decide) z)) ?_
  refine sh_mp (fun w Z k => sh_aload_n dc_Mod_sync_31 rfl rfl k) ?_
  refine sh_mget 12 dc_Mod_sync_32 (by decide) fl_Mod_42 rfl rfl rfl rfl ?_
  refine sh_mp (fun w Z k => sh_iload_n dc_Mod_sync_35 rfl rfl k) ?_
  refine sh_miald 12 (l := 8) (k := s) dc_Mod_sync_36 (by decide) rfl (by omega) (by decide) ?_
  refine sh_mti (show (sh_u2 I 0 0 0) 12 s = I 12 s from (sh_u2_row (by decide) _)) ?_
  refine sh_mp (fun w Z k => sh_if_ge (tgt := 46) dc_Mod_sync_37 (by decide) (fun _ => k) (fun z => absurd c0_37 z)) ?_
  refine sh_mp (fun w Z k => sh_iload_n dc_Mod_sync_46 rfl rfl k) ?_
  refine sh_mp (fun w Z k => sh_if_ne (tgt := 57) dc_Mod_sync_47 (by decide) (fun _ => k) (fun z => absurd z (by decide))) ?_
  refine sh_mp (fun w Z k => sh_iload_n dc_Mod_sync_57 rfl rfl k) ?_
  refine sh_mp (fun w Z k => sh_iconst (v := 1) dc_Mod_sync_58 (by decide) k) ?_
  refine sh_mp (fun w Z k => sh_icmp_ne (tgt := 69) dc_Mod_sync_59 (by decide) (fun _ => k) (fun z => absurd z (by decide))) ?_
  refine sh_mp (fun w Z k => sh_iload_n dc_Mod_sync_69 rfl rfl k) ?_
  refine sh_mp (fun w Z k => sh_bipush (v := 8) dc_Mod_sync_70 (by decide) k) ?_
  refine sh_mp (fun w Z k => sh_icmp_ne (tgt := 82) dc_Mod_sync_72 (by decide) (fun _ => k) (fun z => absurd z (by decide))) ?_
  refine sh_mp (fun w Z k => sh_iload_n dc_Mod_sync_82 rfl rfl k) ?_
  refine sh_mp (fun w Z k => sh_iconst (v := 2) dc_Mod_sync_83 (by decide) k) ?_
  refine sh_mp (fun w Z k => sh_isub dc_Mod_sync_84 k) ?_
  refine sh_mti (show (2 - 2 : Int32) = 0 from by decide) ?_
  refine sh_mp (fun w Z k => sh_aload_n dc_Mod_sync_85 rfl rfl k) ?_
  refine sh_mget 19 dc_Mod_sync_86 (by decide) fl_Mod_63 rfl rfl rfl rfl ?_
  refine sh_mp (fun w Z k => sh_iload_n dc_Mod_sync_89 rfl rfl k) ?_
  refine sh_miald 19 (l := 8) (k := s) dc_Mod_sync_90 (by decide) rfl (by omega) (by decide) ?_
  refine sh_mti (show (sh_u2 I 0 0 0) 19 s = I 19 s from (sh_u2_row (by decide) _)) ?_
  refine sh_mp (fun w Z k => sh_icmp_ge (tgt := 110) dc_Mod_sync_91 (by decide) (fun z => absurd z c1_91) (fun _ => k)) ?_
  refine sh_mp (fun w Z k => sh_aload_n dc_Mod_sync_94 rfl rfl k) ?_
  refine sh_mget 18 dc_Mod_sync_95 (by decide) fl_Mod_60 rfl rfl rfl rfl ?_
  refine sh_mp (fun w Z k => sh_bipush (v := 6) dc_Mod_sync_98 (by decide) k) ?_
  refine sh_mp (fun w Z k => sh_iload_n dc_Mod_sync_100 rfl rfl k) ?_
  refine sh_mp (fun w Z k => sh_imul dc_Mod_sync_101 k) ?_
  refine sh_mp (fun w Z k => sh_iload_n dc_Mod_sync_102 rfl rfl k) ?_
  refine sh_mp (fun w Z k => sh_iadd dc_Mod_sync_103 k) ?_
  refine sh_mp (fun w Z k => sh_iconst (v := 2) dc_Mod_sync_104 (by decide) k) ?_
  refine sh_mp (fun w Z k => sh_isub dc_Mod_sync_105 k) ?_
  refine sh_miald 18 (l := 48) (k := (6 * s) + 0) dc_Mod_sync_106 (by decide) (sh_nsub (c := 2) (sh_nadd (sh_nmul rfl rfl) rfl) (by decide)) (by omega) (by decide) ?_
  refine sh_mti (show (sh_u2 I 0 0 0) 18 ((6 * s) + 0) = I 18 ((6 * s) + 0) from (sh_u2_row (by decide) _)) ?_
  refine sh_mp (fun w Z k => sh_goto_ (tgt := 111) dc_Mod_sync_107 (by decide) k) ?_
  exact sh_me (fun w => sh_ireturn dc_Mod_sync_111 rfl rfl (by decide) (by decide))
theorem mx_Mod_sync_2_3 {mq : Nat} {A : Nat → Nat} {I : sh_II} {D : sh_DD} {s : Nat} (hs : s < 8) (c0_37 : ¬ 0 ≤ (I 12 s)) : sh_mM mq A md_Mod_sync [.ref mq, .int (nI s), .int 2] I D (some (.int 0)) (sh_u2 (sh_u2 I 0 0 0) 0 0 2) D := by
  refine sh_mp (fun w Z k => sh_aload_n dc_Mod_sync_0 rfl rfl k) ?_
  refine sh_mp (fun w Z k => sh_iconst (v := 0) dc_Mod_sync_1 (by decide) k) ?_
  refine sh_mput 0 dc_Mod_sync_2 (by decide) fl_Mod_78 rfl ?_
  refine sh_mp (fun w Z k => sh_aload_n dc_Mod_sync_5 rfl rfl k) ?_
  refine sh_mp (fun w Z k => sh_iload_n dc_Mod_sync_6 rfl rfl k) ?_
  refine sh_mp (fun w Z k => sh_bipush (v := 8) dc_Mod_sync_7 (by decide) k) ?_
  refine sh_mcall (As := [.int (nI s), .int 8]) (fun w hw => by obtain ⟨fs, hw⟩ := hw; exact sh_virt dc_Mod_sync_9 lm_Mod_out ln_Mod_82 wd_953 wd_29 rfl rfl (Nat.le_of_ble_eq_true rfl) hw rfl) (mx_Mod_out_2 (a := nI s) (b := 8) (nI_pos (by omega)) (sp_lt8 hs)) ⟨(Nat.le_of_ble_eq_true rfl), (Nat.le_of_ble_eq_true rfl), (Nat.le_of_ble_eq_true rfl), (Nat.le_of_ble_eq_true rfl)⟩ ?_
  show sh_mW _ _ _ (_, _, [.int 0]) (sh_u2 I 0 0 0) D _ _ _ _ _
  refine sh_mp (fun w Z k => sh_if_ne (tgt := 25) dc_Mod_sync_12 (by decide) (fun z => absurd (by decide) z) (fun _ => k)) ?_
  refine sh_mp (fun w Z k => sh_aload_n dc_Mod_sync_15 rfl rfl k) ?_
  refine sh_mp (fun w Z k => sh_iload_n dc_Mod_sync_16 rfl rfl k) ?_
  refine sh_mp (fun w Z k => sh_bipush (v := 9) dc_Mod_sync_17 (by decide) k) ?_
  refine sh_mcall (As := [.int 2, .int 9]) (fun w hw => by obtain ⟨fs, hw⟩ := hw; exact sh_virt dc_Mod_sync_19 lm_Mod_out ln_Mod_82 wd_953 wd_29 rfl rfl (Nat.le_of_ble_eq_true rfl) hw rfl) (mx_Mod_out_2 (a := 2) (b := 9) (by decide) (by decide)) ⟨(Nat.le_of_ble_eq_true rfl), (Nat.le_of_ble_eq_true rfl), (Nat.le_of_ble_eq_true rfl), (Nat.le_of_ble_eq_true rfl)⟩ ?_
  show sh_mW _ _ _ (_, _, [.int 0]) (sh_u2 I 0 0 0) D _ _ _ _ _
  refine sh_mp (fun w Z k => sh_if_eq (tgt := 31) dc_Mod_sync_22 (by decide) (fun _ => k) (fun z => absurd (by decide) z)) ?_
  refine sh_mp (fun w Z k => sh_aload_n dc_Mod_sync_31 rfl rfl k) ?_
  refine sh_mget 12 dc_Mod_sync_32 (by decide) fl_Mod_42 rfl rfl rfl rfl ?_
  refine sh_mp (fun w Z k => sh_iload_n dc_Mod_sync_35 rfl rfl k) ?_
  refine sh_miald 12 (l := 8) (k := s) dc_Mod_sync_36 (by decide) rfl (by omega) (by decide) ?_
  refine sh_mti (show (sh_u2 I 0 0 0) 12 s = I 12 s from (sh_u2_row (by decide) _)) ?_
  refine sh_mp (fun w Z k => sh_if_ge (tgt := 46) dc_Mod_sync_37 (by decide) (fun z => absurd z c0_37) (fun _ => k)) ?_
  refine sh_mp (fun w Z k => sh_aload_n dc_Mod_sync_40 rfl rfl k) ?_
  refine sh_mp (fun w Z k => sh_iconst (v := 2) dc_Mod_sync_41 (by decide) k) ?_
  refine sh_mcall (As := [.int 2]) (fun w hw => by obtain ⟨fs, hw⟩ := hw; exact sh_virt dc_Mod_sync_42 lm_Mod_fail ln_Mod_86 wd_957 wd_30 rfl rfl (Nat.le_of_ble_eq_true rfl) hw rfl) (mx_Mod_fail_1 (c := 2)) ⟨(Nat.le_of_ble_eq_true rfl), (Nat.le_of_ble_eq_true rfl), (Nat.le_of_ble_eq_true rfl), (Nat.le_of_ble_eq_true rfl)⟩ ?_
  show sh_mW _ _ _ (_, _, [.int 0]) (sh_u2 (sh_u2 I 0 0 0) 0 0 2) D _ _ _ _ _
  exact sh_me (fun w => sh_ireturn dc_Mod_sync_45 rfl rfl (by decide) (by decide))
theorem mx_Mod_sync_3_1 {mq : Nat} {A : Nat → Nat} {I : sh_II} {D : sh_DD} {s : Nat} (hs : s < 8) (c0_37 : 0 ≤ (I 12 s)) (c1_91 : (I 19 s) ≤ 1) : sh_mM mq A md_Mod_sync [.ref mq, .int (nI s), .int 3] I D (some (.int (-1))) (sh_u2 I 0 0 0) D := by
  refine sh_mp (fun w Z k => sh_aload_n dc_Mod_sync_0 rfl rfl k) ?_
  refine sh_mp (fun w Z k => sh_iconst (v := 0) dc_Mod_sync_1 (by decide) k) ?_
  refine sh_mput 0 dc_Mod_sync_2 (by decide) fl_Mod_78 rfl ?_
  refine sh_mp (fun w Z k => sh_aload_n dc_Mod_sync_5 rfl rfl k) ?_
  refine sh_mp (fun w Z k => sh_iload_n dc_Mod_sync_6 rfl rfl k) ?_
  refine sh_mp (fun w Z k => sh_bipush (v := 8) dc_Mod_sync_7 (by decide) k) ?_
  refine sh_mcall (As := [.int (nI s), .int 8]) (fun w hw => by obtain ⟨fs, hw⟩ := hw; exact sh_virt dc_Mod_sync_9 lm_Mod_out ln_Mod_82 wd_953 wd_29 rfl rfl (Nat.le_of_ble_eq_true rfl) hw rfl) (mx_Mod_out_2 (a := nI s) (b := 8) (nI_pos (by omega)) (sp_lt8 hs)) ⟨(Nat.le_of_ble_eq_true rfl), (Nat.le_of_ble_eq_true rfl), (Nat.le_of_ble_eq_true rfl), (Nat.le_of_ble_eq_true rfl)⟩ ?_
  show sh_mW _ _ _ (_, _, [.int 0]) (sh_u2 I 0 0 0) D _ _ _ _ _
  refine sh_mp (fun w Z k => sh_if_ne (tgt := 25) dc_Mod_sync_12 (by decide) (fun z => absurd (by decide) z) (fun _ => k)) ?_
  refine sh_mp (fun w Z k => sh_aload_n dc_Mod_sync_15 rfl rfl k) ?_
  refine sh_mp (fun w Z k => sh_iload_n dc_Mod_sync_16 rfl rfl k) ?_
  refine sh_mp (fun w Z k => sh_bipush (v := 9) dc_Mod_sync_17 (by decide) k) ?_
  refine sh_mcall (As := [.int 3, .int 9]) (fun w hw => by obtain ⟨fs, hw⟩ := hw; exact sh_virt dc_Mod_sync_19 lm_Mod_out ln_Mod_82 wd_953 wd_29 rfl rfl (Nat.le_of_ble_eq_true rfl) hw rfl) (mx_Mod_out_2 (a := 3) (b := 9) (by decide) (by decide)) ⟨(Nat.le_of_ble_eq_true rfl), (Nat.le_of_ble_eq_true rfl), (Nat.le_of_ble_eq_true rfl), (Nat.le_of_ble_eq_true rfl)⟩ ?_
  show sh_mW _ _ _ (_, _, [.int 0]) (sh_u2 I 0 0 0) D _ _ _ _ _
  refine sh_mp (fun w Z k => sh_if_eq (tgt := 31) dc_Mod_sync_22 (by decide) (fun _ => k) (fun z => absurd (by decide) z)) ?_
  refine sh_mp (fun w Z k => sh_aload_n dc_Mod_sync_31 rfl rfl k) ?_
  refine sh_mget 12 dc_Mod_sync_32 (by decide) fl_Mod_42 rfl rfl rfl rfl ?_
  refine sh_mp (fun w Z k => sh_iload_n dc_Mod_sync_35 rfl rfl k) ?_
  refine sh_miald 12 (l := 8) (k := s) dc_Mod_sync_36 (by decide) rfl (by omega) (by decide) ?_
  refine sh_mti (show (sh_u2 I 0 0 0) 12 s = I 12 s from (sh_u2_row (by decide) _)) ?_
  refine sh_mp (fun w Z k => sh_if_ge (tgt := 46) dc_Mod_sync_37 (by decide) (fun _ => k) (fun z => absurd c0_37 z)) ?_
  refine sh_mp (fun w Z k => sh_iload_n dc_Mod_sync_46 rfl rfl k) ?_
  refine sh_mp (fun w Z k => sh_if_ne (tgt := 57) dc_Mod_sync_47 (by decide) (fun _ => k) (fun z => absurd z (by decide))) ?_
  refine sh_mp (fun w Z k => sh_iload_n dc_Mod_sync_57 rfl rfl k) ?_
  refine sh_mp (fun w Z k => sh_iconst (v := 1) dc_Mod_sync_58 (by decide) k) ?_
  refine sh_mp (fun w Z k => sh_icmp_ne (tgt := 69) dc_Mod_sync_59 (by decide) (fun _ => k) (fun z => absurd z (by decide))) ?_
  refine sh_mp (fun w Z k => sh_iload_n dc_Mod_sync_69 rfl rfl k) ?_
  refine sh_mp (fun w Z k => sh_bipush (v := 8) dc_Mod_sync_70 (by decide) k) ?_
  refine sh_mp (fun w Z k => sh_icmp_ne (tgt := 82) dc_Mod_sync_72 (by decide) (fun _ => k) (fun z => absurd z (by decide))) ?_
  refine sh_mp (fun w Z k => sh_iload_n dc_Mod_sync_82 rfl rfl k) ?_
  refine sh_mp (fun w Z k => sh_iconst (v := 2) dc_Mod_sync_83 (by decide) k) ?_
  refine sh_mp (fun w Z k => sh_isub dc_Mod_sync_84 k) ?_
  refine sh_mti (show (3 - 2 : Int32) = 1 from by decide) ?_
  refine sh_mp (fun w Z k => sh_aload_n dc_Mod_sync_85 rfl rfl k) ?_
  refine sh_mget 19 dc_Mod_sync_86 (by decide) fl_Mod_63 rfl rfl rfl rfl ?_
  refine sh_mp (fun w Z k => sh_iload_n dc_Mod_sync_89 rfl rfl k) ?_
  refine sh_miald 19 (l := 8) (k := s) dc_Mod_sync_90 (by decide) rfl (by omega) (by decide) ?_
  refine sh_mti (show (sh_u2 I 0 0 0) 19 s = I 19 s from (sh_u2_row (by decide) _)) ?_
  refine sh_mp (fun w Z k => sh_icmp_ge (tgt := 110) dc_Mod_sync_91 (by decide) (fun _ => k) (fun z => absurd c1_91 z)) ?_
  refine sh_mp (fun w Z k => sh_iconst (v := (-1)) dc_Mod_sync_110 (by decide) k) ?_
  exact sh_me (fun w => sh_ireturn dc_Mod_sync_111 rfl rfl (by decide) (by decide))
theorem mx_Mod_sync_3_2 {mq : Nat} {A : Nat → Nat} {I : sh_II} {D : sh_DD} {s : Nat} (hs : s < 8) (c0_37 : 0 ≤ (I 12 s)) (c1_91 : ¬ (I 19 s) ≤ 1) : sh_mM mq A md_Mod_sync [.ref mq, .int (nI s), .int 3] I D (some (.int (I 18 ((6 * s) + 1)))) (sh_u2 I 0 0 0) D := by
  refine sh_mp (fun w Z k => sh_aload_n dc_Mod_sync_0 rfl rfl k) ?_
  refine sh_mp (fun w Z k => sh_iconst (v := 0) dc_Mod_sync_1 (by decide) k) ?_
  refine sh_mput 0 dc_Mod_sync_2 (by decide) fl_Mod_78 rfl ?_
  refine sh_mp (fun w Z k => sh_aload_n dc_Mod_sync_5 rfl rfl k) ?_
  refine sh_mp (fun w Z k => sh_iload_n dc_Mod_sync_6 rfl rfl k) ?_
  refine sh_mp (fun w Z k => sh_bipush (v := 8) dc_Mod_sync_7 (by decide) k) ?_
  refine sh_mcall (As := [.int (nI s), .int 8]) (fun w hw => by obtain ⟨fs, hw⟩ := hw; exact sh_virt dc_Mod_sync_9 lm_Mod_out ln_Mod_82 wd_953 wd_29 rfl rfl (Nat.le_of_ble_eq_true rfl) hw rfl) (mx_Mod_out_2 (a := nI s) (b := 8) (nI_pos (by omega)) (sp_lt8 hs)) ⟨(Nat.le_of_ble_eq_true rfl), (Nat.le_of_ble_eq_true rfl), (Nat.le_of_ble_eq_true rfl), (Nat.le_of_ble_eq_true rfl)⟩ ?_
  show sh_mW _ _ _ (_, _, [.int 0]) (sh_u2 I 0 0 0) D _ _ _ _ _
  refine sh_mp (fun w Z k => sh_if_ne (tgt := 25) dc_Mod_sync_12 (by decide) (fun z => absurd (by decide) z) (fun _ => k)) ?_
  refine sh_mp (fun w Z k => sh_aload_n dc_Mod_sync_15 rfl rfl k) ?_
  refine sh_mp (fun w Z k => sh_iload_n dc_Mod_sync_16 rfl rfl k) ?_
  refine sh_mp (fun w Z k => sh_bipush (v := 9) dc_Mod_sync_17 (by decide) k) ?_
  refine sh_mcall (As := [.int 3, .int 9]) (fun w hw => by obtain ⟨fs, hw⟩ := hw; exact sh_virt dc_Mod_sync_19 lm_Mod_out ln_Mod_82 wd_953 wd_29 rfl rfl (Nat.le_of_ble_eq_true rfl) hw rfl) (mx_Mod_out_2 (a := 3) (b := 9) (by decide) (by decide)) ⟨(Nat.le_of_ble_eq_true rfl), (Nat.le_of_ble_eq_true rfl), (Nat.le_of_ble_eq_true rfl), (Nat.le_of_ble_eq_true rfl)⟩ ?_
  show sh_mW _ _ _ (_, _, [.int 0]) (sh_u2 I 0 0 0) D _ _ _ _ _
  refine sh_mp (fun w Z k => sh_if_eq (tgt := 31) dc_Mod_sync_22 (by decide) (fun _ => k) (fun z => absurd (by decide) z)) ?_
  refine sh_mp (fun w Z k => sh_aload_n dc_Mod_sync_31 rfl rfl k) ?_
  refine sh_mget 12 dc_Mod_sync_32 (by decide) fl_Mod_42 rfl rfl rfl rfl ?_
  refine sh_mp (fun w Z k => sh_iload_n dc_Mod_sync_35 rfl rfl k) ?_
  refine sh_miald 12 (l := 8) (k := s) dc_Mod_sync_36 (by decide) rfl (by omega) (by decide) ?_
  refine sh_mti (show (sh_u2 I 0 0 0) 12 s = I 12 s from (sh_u2_row (by decide) _)) ?_
  refine sh_mp (fun w Z k => sh_if_ge (tgt := 46) dc_Mod_sync_37 (by decide) (fun _ => k) (fun z => absurd c0_37 z)) ?_
  refine sh_mp (fun w Z k => sh_iload_n dc_Mod_sync_46 rfl rfl k) ?_
  refine sh_mp (fun w Z k => sh_if_ne (tgt := 57) dc_Mod_sync_47 (by decide) (fun _ => k) (fun z => absurd z (by decide))) ?_
  refine sh_mp (fun w Z k => sh_iload_n dc_Mod_sync_57 rfl rfl k) ?_
  refine sh_mp (fun w Z k => sh_iconst (v := 1) dc_Mod_sync_58 (by decide) k) ?_
  refine sh_mp (fun w Z k => sh_icmp_ne (tgt := 69) dc_Mod_sync_59 (by decide) (fun _ => k) (fun z => absurd z (by decide))) ?_
  refine sh_mp (fun w Z k => sh_iload_n dc_Mod_sync_69 rfl rfl k) ?_
  refine sh_mp (fun w Z k => sh_bipush (v := 8) dc_Mod_sync_70 (by decide) k) ?_
  refine sh_mp (fun w Z k => sh_icmp_ne (tgt := 82) dc_Mod_sync_72 (by decide) (fun _ => k) (fun z => absurd z (by decide))) ?_
  refine sh_mp (fun w Z k => sh_iload_n dc_Mod_sync_82 rfl rfl k) ?_
  refine sh_mp (fun w Z k => sh_iconst (v := 2) dc_Mod_sync_83 (by decide) k) ?_
  refine sh_mp (fun w Z k => sh_isub dc_Mod_sync_84 k) ?_
  refine sh_mti (show (3 - 2 : Int32) = 1 from by decide) ?_
  refine sh_mp (fun w Z k => sh_aload_n dc_Mod_sync_85 rfl rfl k) ?_
  refine sh_mget 19 dc_Mod_sync_86 (by decide) fl_Mod_63 rfl rfl rfl rfl ?_
  refine sh_mp (fun w Z k => sh_iload_n dc_Mod_sync_89 rfl rfl k) ?_
  refine sh_miald 19 (l := 8) (k := s) dc_Mod_sync_90 (by decide) rfl (by omega) (by decide) ?_
  refine sh_mti (show (sh_u2 I 0 0 0) 19 s = I 19 s from (sh_u2_row (by decide) _)) ?_
  refine sh_mp (fun w Z k => sh_icmp_ge (tgt := 110) dc_Mod_sync_91 (by decide) (fun z => absurd z c1_91) (fun _ => k)) ?_
  refine sh_mp (fun w Z k => sh_aload_n dc_Mod_sync_94 rfl rfl k) ?_
  refine sh_mget 18 dc_Mod_sync_95 (by decide) fl_Mod_60 rfl rfl rfl rfl ?_
  refine sh_mp (fun w Z k => sh_bipush (v := 6) dc_Mod_sync_98 (by decide) k) ?_
  refine sh_mp (fun w Z k => sh_iload_n dc_Mod_sync_100 rfl rfl k) ?_
  refine sh_mp (fun w Z k => sh_imul dc_Mod_sync_101 k) ?_
  refine sh_mp (fun w Z k => sh_iload_n dc_Mod_sync_102 rfl rfl k) ?_
  refine sh_mp (fun w Z k => sh_iadd dc_Mod_sync_103 k) ?_
  refine sh_mp (fun w Z k => sh_iconst (v := 2) dc_Mod_sync_104 (by decide) k) ?_
  refine sh_mp (fun w Z k => sh_isub dc_Mod_sync_105 k) ?_
  refine sh_miald 18 (l := 48) (k := (6 * s) + 1) dc_Mod_sync_106 (by decide) (sh_nsub (c := 2) (sh_nadd (sh_nmul rfl rfl) rfl) (by decide)) (by omega) (by decide) ?_
  refine sh_mti (show (sh_u2 I 0 0 0) 18 ((6 * s) + 1) = I 18 ((6 * s) + 1) from (sh_u2_row (by decide) _)) ?_
  refine sh_mp (fun w Z k => sh_goto_ (tgt := 111) dc_Mod_sync_107 (by decide) k) ?_
  exact sh_me (fun w => sh_ireturn dc_Mod_sync_111 rfl rfl (by decide) (by decide))
theorem mx_Mod_sync_3_3 {mq : Nat} {A : Nat → Nat} {I : sh_II} {D : sh_DD} {s : Nat} (hs : s < 8) (c0_37 : ¬ 0 ≤ (I 12 s)) : sh_mM mq A md_Mod_sync [.ref mq, .int (nI s), .int 3] I D (some (.int 0)) (sh_u2 (sh_u2 I 0 0 0) 0 0 2) D := by
  refine sh_mp (fun w Z k => sh_aload_n dc_Mod_sync_0 rfl rfl k) ?_
  refine sh_mp (fun w Z k => sh_iconst (v := 0) dc_Mod_sync_1 (by decide) k) ?_
  refine sh_mput 0 dc_Mod_sync_2 (by decide) fl_Mod_78 rfl ?_
  refine sh_mp (fun w Z k => sh_aload_n dc_Mod_sync_5 rfl rfl k) ?_
  refine sh_mp (fun w Z k => sh_iload_n dc_Mod_sync_6 rfl rfl k) ?_
  refine sh_mp (fun w Z k => sh_bipush (v := 8) dc_Mod_sync_7 (by decide) k) ?_
  refine sh_mcall (As := [.int (nI s), .int 8]) (fun w hw => by obtain ⟨fs, hw⟩ := hw; exact sh_virt dc_Mod_sync_9 lm_Mod_out ln_Mod_82 wd_953 wd_29 rfl rfl (Nat.le_of_ble_eq_true rfl) hw rfl) (mx_Mod_out_2 (a := nI s) (b := 8) (nI_pos (by omega)) (sp_lt8 hs)) ⟨(Nat.le_of_ble_eq_true rfl), (Nat.le_of_ble_eq_true rfl), (Nat.le_of_ble_eq_true rfl), (Nat.le_of_ble_eq_true rfl)⟩ ?_
  show sh_mW _ _ _ (_, _, [.int 0]) (sh_u2 I 0 0 0) D _ _ _ _ _
  refine sh_mp (fun w Z k => sh_if_ne (tgt := 25) dc_Mod_sync_12 (by decide) (fun z => absurd (by decide) z) (fun _ => k)) ?_
  refine sh_mp (fun w Z k => sh_aload_n dc_Mod_sync_15 rfl rfl k) ?_
  refine sh_mp (fun w Z k => sh_iload_n dc_Mod_sync_16 rfl rfl k) ?_
  refine sh_mp (fun w Z k => sh_bipush (v := 9) dc_Mod_sync_17 (by decide) k) ?_
  refine sh_mcall (As := [.int 3, .int 9]) (fun w hw => by obtain ⟨fs, hw⟩ := hw; exact sh_virt dc_Mod_sync_19 lm_Mod_out ln_Mod_82 wd_953 wd_29 rfl rfl (Nat.le_of_ble_eq_true rfl) hw rfl) (mx_Mod_out_2 (a := 3) (b := 9) (by decide) (by decide)) ⟨(Nat.le_of_ble_eq_true rfl), (Nat.le_of_ble_eq_true rfl), (Nat.le_of_ble_eq_true rfl), (Nat.le_of_ble_eq_true rfl)⟩ ?_
  show sh_mW _ _ _ (_, _, [.int 0]) (sh_u2 I 0 0 0) D _ _ _ _ _
  refine sh_mp (fun w Z k => sh_if_eq (tgt := 31) dc_Mod_sync_22 (by decide) (fun _ => k) (fun z => absurd (by decide) z)) ?_
  refine sh_mp (fun w Z k => sh_aload_n dc_Mod_sync_31 rfl rfl k) ?_
  refine sh_mget 12 dc_Mod_sync_32 (by decide) fl_Mod_42 rfl rfl rfl rfl ?_
  refine sh_mp (fun w Z k => sh_iload_n dc_Mod_sync_35 rfl rfl k) ?_
  refine sh_miald 12 (l := 8) (k := s) dc_Mod_sync_36 (by decide) rfl (by omega) (by decide) ?_
  refine sh_mti (show (sh_u2 I 0 0 0) 12 s = I 12 s from (sh_u2_row (by decide) _)) ?_
  refine sh_mp (fun w Z k => sh_if_ge (tgt := 46) dc_Mod_sync_37 (by decide) (fun z => absurd z c0_37) (fun _ => k)) ?_
  refine sh_mp (fun w Z k => sh_aload_n dc_Mod_sync_40 rfl rfl k) ?_
  refine sh_mp (fun w Z k => sh_iconst (v := 2) dc_Mod_sync_41 (by decide) k) ?_
  refine sh_mcall (As := [.int 2]) (fun w hw => by obtain ⟨fs, hw⟩ := hw; exact sh_virt dc_Mod_sync_42 lm_Mod_fail ln_Mod_86 wd_957 wd_30 rfl rfl (Nat.le_of_ble_eq_true rfl) hw rfl) (mx_Mod_fail_1 (c := 2)) ⟨(Nat.le_of_ble_eq_true rfl), (Nat.le_of_ble_eq_true rfl), (Nat.le_of_ble_eq_true rfl), (Nat.le_of_ble_eq_true rfl)⟩ ?_
  show sh_mW _ _ _ (_, _, [.int 0]) (sh_u2 (sh_u2 I 0 0 0) 0 0 2) D _ _ _ _ _
  exact sh_me (fun w => sh_ireturn dc_Mod_sync_45 rfl rfl (by decide) (by decide))
theorem mx_Mod_sync_4_1 {mq : Nat} {A : Nat → Nat} {I : sh_II} {D : sh_DD} {s : Nat} (hs : s < 8) (c0_37 : 0 ≤ (I 12 s)) (c1_91 : (I 19 s) ≤ 2) : sh_mM mq A md_Mod_sync [.ref mq, .int (nI s), .int 4] I D (some (.int (-1))) (sh_u2 I 0 0 0) D := by
  refine sh_mp (fun w Z k => sh_aload_n dc_Mod_sync_0 rfl rfl k) ?_
  refine sh_mp (fun w Z k => sh_iconst (v := 0) dc_Mod_sync_1 (by decide) k) ?_
  refine sh_mput 0 dc_Mod_sync_2 (by decide) fl_Mod_78 rfl ?_
  refine sh_mp (fun w Z k => sh_aload_n dc_Mod_sync_5 rfl rfl k) ?_
  refine sh_mp (fun w Z k => sh_iload_n dc_Mod_sync_6 rfl rfl k) ?_
  refine sh_mp (fun w Z k => sh_bipush (v := 8) dc_Mod_sync_7 (by decide) k) ?_
  refine sh_mcall (As := [.int (nI s), .int 8]) (fun w hw => by obtain ⟨fs, hw⟩ := hw; exact sh_virt dc_Mod_sync_9 lm_Mod_out ln_Mod_82 wd_953 wd_29 rfl rfl (Nat.le_of_ble_eq_true rfl) hw rfl) (mx_Mod_out_2 (a := nI s) (b := 8) (nI_pos (by omega)) (sp_lt8 hs)) ⟨(Nat.le_of_ble_eq_true rfl), (Nat.le_of_ble_eq_true rfl), (Nat.le_of_ble_eq_true rfl), (Nat.le_of_ble_eq_true rfl)⟩ ?_
  show sh_mW _ _ _ (_, _, [.int 0]) (sh_u2 I 0 0 0) D _ _ _ _ _
  refine sh_mp (fun w Z k => sh_if_ne (tgt := 25) dc_Mod_sync_12 (by decide) (fun z => absurd (by decide) z) (fun _ => k)) ?_
  refine sh_mp (fun w Z k => sh_aload_n dc_Mod_sync_15 rfl rfl k) ?_
  refine sh_mp (fun w Z k => sh_iload_n dc_Mod_sync_16 rfl rfl k) ?_
  refine sh_mp (fun w Z k => sh_bipush (v := 9) dc_Mod_sync_17 (by decide) k) ?_
  refine sh_mcall (As := [.int 4, .int 9]) (fun w hw => by obtain ⟨fs, hw⟩ := hw; exact sh_virt dc_Mod_sync_19 lm_Mod_out ln_Mod_82 wd_953 wd_29 rfl rfl (Nat.le_of_ble_eq_true rfl) hw rfl) (mx_Mod_out_2 (a := 4) (b := 9) (by decide) (by decide)) ⟨(Nat.le_of_ble_eq_true rfl), (Nat.le_of_ble_eq_true rfl), (Nat.le_of_ble_eq_true rfl), (Nat.le_of_ble_eq_true rfl)⟩ ?_
  show sh_mW _ _ _ (_, _, [.int 0]) (sh_u2 I 0 0 0) D _ _ _ _ _
  refine sh_mp (fun w Z k => sh_if_eq (tgt := 31) dc_Mod_sync_22 (by decide) (fun _ => k) (fun z => absurd (by decide) z)) ?_
  refine sh_mp (fun w Z k => sh_aload_n dc_Mod_sync_31 rfl rfl k) ?_
  refine sh_mget 12 dc_Mod_sync_32 (by decide) fl_Mod_42 rfl rfl rfl rfl ?_
  refine sh_mp (fun w Z k => sh_iload_n dc_Mod_sync_35 rfl rfl k) ?_
  refine sh_miald 12 (l := 8) (k := s) dc_Mod_sync_36 (by decide) rfl (by omega) (by decide) ?_
  refine sh_mti (show (sh_u2 I 0 0 0) 12 s = I 12 s from (sh_u2_row (by decide) _)) ?_
  refine sh_mp (fun w Z k => sh_if_ge (tgt := 46) dc_Mod_sync_37 (by decide) (fun _ => k) (fun z => absurd c0_37 z)) ?_
  refine sh_mp (fun w Z k => sh_iload_n dc_Mod_sync_46 rfl rfl k) ?_
  refine sh_mp (fun w Z k => sh_if_ne (tgt := 57) dc_Mod_sync_47 (by decide) (fun _ => k) (fun z => absurd z (by decide))) ?_
  refine sh_mp (fun w Z k => sh_iload_n dc_Mod_sync_57 rfl rfl k) ?_
  refine sh_mp (fun w Z k => sh_iconst (v := 1) dc_Mod_sync_58 (by decide) k) ?_
  refine sh_mp (fun w Z k => sh_icmp_ne (tgt := 69) dc_Mod_sync_59 (by decide) (fun _ => k) (fun z => absurd z (by decide))) ?_
  refine sh_mp (fun w Z k => sh_iload_n dc_Mod_sync_69 rfl rfl k) ?_
  refine sh_mp (fun w Z k => sh_bipush (v := 8) dc_Mod_sync_70 (by decide) k) ?_
  refine sh_mp (fun w Z k => sh_icmp_ne (tgt := 82) dc_Mod_sync_72 (by decide) (fun _ => k) (fun z => absurd z (by decide))) ?_
  refine sh_mp (fun w Z k => sh_iload_n dc_Mod_sync_82 rfl rfl k) ?_
  refine sh_mp (fun w Z k => sh_iconst (v := 2) dc_Mod_sync_83 (by decide) k) ?_
  refine sh_mp (fun w Z k => sh_isub dc_Mod_sync_84 k) ?_
  refine sh_mti (show (4 - 2 : Int32) = 2 from by decide) ?_
  refine sh_mp (fun w Z k => sh_aload_n dc_Mod_sync_85 rfl rfl k) ?_
  refine sh_mget 19 dc_Mod_sync_86 (by decide) fl_Mod_63 rfl rfl rfl rfl ?_
  refine sh_mp (fun w Z k => sh_iload_n dc_Mod_sync_89 rfl rfl k) ?_
  refine sh_miald 19 (l := 8) (k := s) dc_Mod_sync_90 (by decide) rfl (by omega) (by decide) ?_
  refine sh_mti (show (sh_u2 I 0 0 0) 19 s = I 19 s from (sh_u2_row (by decide) _)) ?_
  refine sh_mp (fun w Z k => sh_icmp_ge (tgt := 110) dc_Mod_sync_91 (by decide) (fun _ => k) (fun z => absurd c1_91 z)) ?_
  refine sh_mp (fun w Z k => sh_iconst (v := (-1)) dc_Mod_sync_110 (by decide) k) ?_
  exact sh_me (fun w => sh_ireturn dc_Mod_sync_111 rfl rfl (by decide) (by decide))
theorem mx_Mod_sync_4_2 {mq : Nat} {A : Nat → Nat} {I : sh_II} {D : sh_DD} {s : Nat} (hs : s < 8) (c0_37 : 0 ≤ (I 12 s)) (c1_91 : ¬ (I 19 s) ≤ 2) : sh_mM mq A md_Mod_sync [.ref mq, .int (nI s), .int 4] I D (some (.int (I 18 ((6 * s) + 2)))) (sh_u2 I 0 0 0) D := by
  refine sh_mp (fun w Z k => sh_aload_n dc_Mod_sync_0 rfl rfl k) ?_
  refine sh_mp (fun w Z k => sh_iconst (v := 0) dc_Mod_sync_1 (by decide) k) ?_
  refine sh_mput 0 dc_Mod_sync_2 (by decide) fl_Mod_78 rfl ?_
  refine sh_mp (fun w Z k => sh_aload_n dc_Mod_sync_5 rfl rfl k) ?_
  refine sh_mp (fun w Z k => sh_iload_n dc_Mod_sync_6 rfl rfl k) ?_
  refine sh_mp (fun w Z k => sh_bipush (v := 8) dc_Mod_sync_7 (by decide) k) ?_
  refine sh_mcall (As := [.int (nI s), .int 8]) (fun w hw => by obtain ⟨fs, hw⟩ := hw; exact sh_virt dc_Mod_sync_9 lm_Mod_out ln_Mod_82 wd_953 wd_29 rfl rfl (Nat.le_of_ble_eq_true rfl) hw rfl) (mx_Mod_out_2 (a := nI s) (b := 8) (nI_pos (by omega)) (sp_lt8 hs)) ⟨(Nat.le_of_ble_eq_true rfl), (Nat.le_of_ble_eq_true rfl), (Nat.le_of_ble_eq_true rfl), (Nat.le_of_ble_eq_true rfl)⟩ ?_
  show sh_mW _ _ _ (_, _, [.int 0]) (sh_u2 I 0 0 0) D _ _ _ _ _
  refine sh_mp (fun w Z k => sh_if_ne (tgt := 25) dc_Mod_sync_12 (by decide) (fun z => absurd (by decide) z) (fun _ => k)) ?_
  refine sh_mp (fun w Z k => sh_aload_n dc_Mod_sync_15 rfl rfl k) ?_
  refine sh_mp (fun w Z k => sh_iload_n dc_Mod_sync_16 rfl rfl k) ?_
  refine sh_mp (fun w Z k => sh_bipush (v := 9) dc_Mod_sync_17 (by decide) k) ?_
  refine sh_mcall (As := [.int 4, .int 9]) (fun w hw => by obtain ⟨fs, hw⟩ := hw; exact sh_virt dc_Mod_sync_19 lm_Mod_out ln_Mod_82 wd_953 wd_29 rfl rfl (Nat.le_of_ble_eq_true rfl) hw rfl) (mx_Mod_out_2 (a := 4) (b := 9) (by decide) (by decide)) ⟨(Nat.le_of_ble_eq_true rfl), (Nat.le_of_ble_eq_true rfl), (Nat.le_of_ble_eq_true rfl), (Nat.le_of_ble_eq_true rfl)⟩ ?_
  show sh_mW _ _ _ (_, _, [.int 0]) (sh_u2 I 0 0 0) D _ _ _ _ _
  refine sh_mp (fun w Z k => sh_if_eq (tgt := 31) dc_Mod_sync_22 (by decide) (fun _ => k) (fun z => absurd (by decide) z)) ?_
  refine sh_mp (fun w Z k => sh_aload_n dc_Mod_sync_31 rfl rfl k) ?_
  refine sh_mget 12 dc_Mod_sync_32 (by decide) fl_Mod_42 rfl rfl rfl rfl ?_
  refine sh_mp (fun w Z k => sh_iload_n dc_Mod_sync_35 rfl rfl k) ?_
  refine sh_miald 12 (l := 8) (k := s) dc_Mod_sync_36 (by decide) rfl (by omega) (by decide) ?_
  refine sh_mti (show (sh_u2 I 0 0 0) 12 s = I 12 s from (sh_u2_row (by decide) _)) ?_
  refine sh_mp (fun w Z k => sh_if_ge (tgt := 46) dc_Mod_sync_37 (by decide) (fun _ => k) (fun z => absurd c0_37 z)) ?_
  refine sh_mp (fun w Z k => sh_iload_n dc_Mod_sync_46 rfl rfl k) ?_
  refine sh_mp (fun w Z k => sh_if_ne (tgt := 57) dc_Mod_sync_47 (by decide) (fun _ => k) (fun z => absurd z (by decide))) ?_
  refine sh_mp (fun w Z k => sh_iload_n dc_Mod_sync_57 rfl rfl k) ?_
  refine sh_mp (fun w Z k => sh_iconst (v := 1) dc_Mod_sync_58 (by decide) k) ?_
  refine sh_mp (fun w Z k => sh_icmp_ne (tgt := 69) dc_Mod_sync_59 (by decide) (fun _ => k) (fun z => absurd z (by decide))) ?_
  refine sh_mp (fun w Z k => sh_iload_n dc_Mod_sync_69 rfl rfl k) ?_
  refine sh_mp (fun w Z k => sh_bipush (v := 8) dc_Mod_sync_70 (by decide) k) ?_
  refine sh_mp (fun w Z k => sh_icmp_ne (tgt := 82) dc_Mod_sync_72 (by decide) (fun _ => k) (fun z => absurd z (by decide))) ?_
  refine sh_mp (fun w Z k => sh_iload_n dc_Mod_sync_82 rfl rfl k) ?_
  refine sh_mp (fun w Z k => sh_iconst (v := 2) dc_Mod_sync_83 (by decide) k) ?_
  refine sh_mp (fun w Z k => sh_isub dc_Mod_sync_84 k) ?_
  refine sh_mti (show (4 - 2 : Int32) = 2 from by decide) ?_
  refine sh_mp (fun w Z k => sh_aload_n dc_Mod_sync_85 rfl rfl k) ?_
  refine sh_mget 19 dc_Mod_sync_86 (by decide) fl_Mod_63 rfl rfl rfl rfl ?_
  refine sh_mp (fun w Z k => sh_iload_n dc_Mod_sync_89 rfl rfl k) ?_
  refine sh_miald 19 (l := 8) (k := s) dc_Mod_sync_90 (by decide) rfl (by omega) (by decide) ?_
  refine sh_mti (show (sh_u2 I 0 0 0) 19 s = I 19 s from (sh_u2_row (by decide) _)) ?_
  refine sh_mp (fun w Z k => sh_icmp_ge (tgt := 110) dc_Mod_sync_91 (by decide) (fun z => absurd z c1_91) (fun _ => k)) ?_
  refine sh_mp (fun w Z k => sh_aload_n dc_Mod_sync_94 rfl rfl k) ?_
  refine sh_mget 18 dc_Mod_sync_95 (by decide) fl_Mod_60 rfl rfl rfl rfl ?_
  refine sh_mp (fun w Z k => sh_bipush (v := 6) dc_Mod_sync_98 (by decide) k) ?_
  refine sh_mp (fun w Z k => sh_iload_n dc_Mod_sync_100 rfl rfl k) ?_
  refine sh_mp (fun w Z k => sh_imul dc_Mod_sync_101 k) ?_
  refine sh_mp (fun w Z k => sh_iload_n dc_Mod_sync_102 rfl rfl k) ?_
  refine sh_mp (fun w Z k => sh_iadd dc_Mod_sync_103 k) ?_
  refine sh_mp (fun w Z k => sh_iconst (v := 2) dc_Mod_sync_104 (by decide) k) ?_
  refine sh_mp (fun w Z k => sh_isub dc_Mod_sync_105 k) ?_
  refine sh_miald 18 (l := 48) (k := (6 * s) + 2) dc_Mod_sync_106 (by decide) (sh_nsub (c := 2) (sh_nadd (sh_nmul rfl rfl) rfl) (by decide)) (by omega) (by decide) ?_
  refine sh_mti (show (sh_u2 I 0 0 0) 18 ((6 * s) + 2) = I 18 ((6 * s) + 2) from (sh_u2_row (by decide) _)) ?_
  refine sh_mp (fun w Z k => sh_goto_ (tgt := 111) dc_Mod_sync_107 (by decide) k) ?_
  exact sh_me (fun w => sh_ireturn dc_Mod_sync_111 rfl rfl (by decide) (by decide))
theorem mx_Mod_sync_4_3 {mq : Nat} {A : Nat → Nat} {I : sh_II} {D : sh_DD} {s : Nat} (hs : s < 8) (c0_37 : ¬ 0 ≤ (I 12 s)) : sh_mM mq A md_Mod_sync [.ref mq, .int (nI s), .int 4] I D (some (.int 0)) (sh_u2 (sh_u2 I 0 0 0) 0 0 2) D := by
  refine sh_mp (fun w Z k => sh_aload_n dc_Mod_sync_0 rfl rfl k) ?_
  refine sh_mp (fun w Z k => sh_iconst (v := 0) dc_Mod_sync_1 (by decide) k) ?_
  refine sh_mput 0 dc_Mod_sync_2 (by decide) fl_Mod_78 rfl ?_
  refine sh_mp (fun w Z k => sh_aload_n dc_Mod_sync_5 rfl rfl k) ?_
  refine sh_mp (fun w Z k => sh_iload_n dc_Mod_sync_6 rfl rfl k) ?_
  refine sh_mp (fun w Z k => sh_bipush (v := 8) dc_Mod_sync_7 (by decide) k) ?_
  refine sh_mcall (As := [.int (nI s), .int 8]) (fun w hw => by obtain ⟨fs, hw⟩ := hw; exact sh_virt dc_Mod_sync_9 lm_Mod_out ln_Mod_82 wd_953 wd_29 rfl rfl (Nat.le_of_ble_eq_true rfl) hw rfl) (mx_Mod_out_2 (a := nI s) (b := 8) (nI_pos (by omega)) (sp_lt8 hs)) ⟨(Nat.le_of_ble_eq_true rfl), (Nat.le_of_ble_eq_true rfl), (Nat.le_of_ble_eq_true rfl), (Nat.le_of_ble_eq_true rfl)⟩ ?_
  show sh_mW _ _ _ (_, _, [.int 0]) (sh_u2 I 0 0 0) D _ _ _ _ _
  refine sh_mp (fun w Z k => sh_if_ne (tgt := 25) dc_Mod_sync_12 (by decide) (fun z => absurd (by decide) z) (fun _ => k)) ?_
  refine sh_mp (fun w Z k => sh_aload_n dc_Mod_sync_15 rfl rfl k) ?_
  refine sh_mp (fun w Z k => sh_iload_n dc_Mod_sync_16 rfl rfl k) ?_
  refine sh_mp (fun w Z k => sh_bipush (v := 9) dc_Mod_sync_17 (by decide) k) ?_
  refine sh_mcall (As := [.int 4, .int 9]) (fun w hw => by obtain ⟨fs, hw⟩ := hw; exact sh_virt dc_Mod_sync_19 lm_Mod_out ln_Mod_82 wd_953 wd_29 rfl rfl (Nat.le_of_ble_eq_true rfl) hw rfl) (mx_Mod_out_2 (a := 4) (b := 9) (by decide) (by decide)) ⟨(Nat.le_of_ble_eq_true rfl), (Nat.le_of_ble_eq_true rfl), (Nat.le_of_ble_eq_true rfl), (Nat.le_of_ble_eq_true rfl)⟩ ?_
  show sh_mW _ _ _ (_, _, [.int 0]) (sh_u2 I 0 0 0) D _ _ _ _ _
  refine sh_mp (fun w Z k => sh_if_eq (tgt := 31) dc_Mod_sync_22 (by decide) (fun _ => k) (fun z => absurd (by decide) z)) ?_
  refine sh_mp (fun w Z k => sh_aload_n dc_Mod_sync_31 rfl rfl k) ?_
  refine sh_mget 12 dc_Mod_sync_32 (by decide) fl_Mod_42 rfl rfl rfl rfl ?_
  refine sh_mp (fun w Z k => sh_iload_n dc_Mod_sync_35 rfl rfl k) ?_
  refine sh_miald 12 (l := 8) (k := s) dc_Mod_sync_36 (by decide) rfl (by omega) (by decide) ?_
  refine sh_mti (show (sh_u2 I 0 0 0) 12 s = I 12 s from (sh_u2_row (by decide) _)) ?_
  refine sh_mp (fun w Z k => sh_if_ge (tgt := 46) dc_Mod_sync_37 (by decide) (fun z => absurd z c0_37) (fun _ => k)) ?_
  refine sh_mp (fun w Z k => sh_aload_n dc_Mod_sync_40 rfl rfl k) ?_
  refine sh_mp (fun w Z k => sh_iconst (v := 2) dc_Mod_sync_41 (by decide) k) ?_
  refine sh_mcall (As := [.int 2]) (fun w hw => by obtain ⟨fs, hw⟩ := hw; exact sh_virt dc_Mod_sync_42 lm_Mod_fail ln_Mod_86 wd_957 wd_30 rfl rfl (Nat.le_of_ble_eq_true rfl) hw rfl) (mx_Mod_fail_1 (c := 2)) ⟨(Nat.le_of_ble_eq_true rfl), (Nat.le_of_ble_eq_true rfl), (Nat.le_of_ble_eq_true rfl), (Nat.le_of_ble_eq_true rfl)⟩ ?_
  show sh_mW _ _ _ (_, _, [.int 0]) (sh_u2 (sh_u2 I 0 0 0) 0 0 2) D _ _ _ _ _
  exact sh_me (fun w => sh_ireturn dc_Mod_sync_45 rfl rfl (by decide) (by decide))
theorem mx_Mod_sync_5_1 {mq : Nat} {A : Nat → Nat} {I : sh_II} {D : sh_DD} {s : Nat} (hs : s < 8) (c0_37 : 0 ≤ (I 12 s)) (c1_91 : (I 19 s) ≤ 3) : sh_mM mq A md_Mod_sync [.ref mq, .int (nI s), .int 5] I D (some (.int (-1))) (sh_u2 I 0 0 0) D := by
  refine sh_mp (fun w Z k => sh_aload_n dc_Mod_sync_0 rfl rfl k) ?_
  refine sh_mp (fun w Z k => sh_iconst (v := 0) dc_Mod_sync_1 (by decide) k) ?_
  refine sh_mput 0 dc_Mod_sync_2 (by decide) fl_Mod_78 rfl ?_
  refine sh_mp (fun w Z k => sh_aload_n dc_Mod_sync_5 rfl rfl k) ?_
  refine sh_mp (fun w Z k => sh_iload_n dc_Mod_sync_6 rfl rfl k) ?_
  refine sh_mp (fun w Z k => sh_bipush (v := 8) dc_Mod_sync_7 (by decide) k) ?_
  refine sh_mcall (As := [.int (nI s), .int 8]) (fun w hw => by obtain ⟨fs, hw⟩ := hw; exact sh_virt dc_Mod_sync_9 lm_Mod_out ln_Mod_82 wd_953 wd_29 rfl rfl (Nat.le_of_ble_eq_true rfl) hw rfl) (mx_Mod_out_2 (a := nI s) (b := 8) (nI_pos (by omega)) (sp_lt8 hs)) ⟨(Nat.le_of_ble_eq_true rfl), (Nat.le_of_ble_eq_true rfl), (Nat.le_of_ble_eq_true rfl), (Nat.le_of_ble_eq_true rfl)⟩ ?_
  show sh_mW _ _ _ (_, _, [.int 0]) (sh_u2 I 0 0 0) D _ _ _ _ _
  refine sh_mp (fun w Z k => sh_if_ne (tgt := 25) dc_Mod_sync_12 (by decide) (fun z => absurd (by decide) z) (fun _ => k)) ?_
  refine sh_mp (fun w Z k => sh_aload_n dc_Mod_sync_15 rfl rfl k) ?_
  refine sh_mp (fun w Z k => sh_iload_n dc_Mod_sync_16 rfl rfl k) ?_
  refine sh_mp (fun w Z k => sh_bipush (v := 9) dc_Mod_sync_17 (by decide) k) ?_
  refine sh_mcall (As := [.int 5, .int 9]) (fun w hw => by obtain ⟨fs, hw⟩ := hw; exact sh_virt dc_Mod_sync_19 lm_Mod_out ln_Mod_82 wd_953 wd_29 rfl rfl (Nat.le_of_ble_eq_true rfl) hw rfl) (mx_Mod_out_2 (a := 5) (b := 9) (by decide) (by decide)) ⟨(Nat.le_of_ble_eq_true rfl), (Nat.le_of_ble_eq_true rfl), (Nat.le_of_ble_eq_true rfl), (Nat.le_of_ble_eq_true rfl)⟩ ?_
  show sh_mW _ _ _ (_, _, [.int 0]) (sh_u2 I 0 0 0) D _ _ _ _ _
  refine sh_mp (fun w Z k => sh_if_eq (tgt := 31) dc_Mod_sync_22 (by decide) (fun _ => k) (fun z => absurd (by decide) z)) ?_
  refine sh_mp (fun w Z k => sh_aload_n dc_Mod_sync_31 rfl rfl k) ?_
  refine sh_mget 12 dc_Mod_sync_32 (by decide) fl_Mod_42 rfl rfl rfl rfl ?_
  refine sh_mp (fun w Z k => sh_iload_n dc_Mod_sync_35 rfl rfl k) ?_
  refine sh_miald 12 (l := 8) (k := s) dc_Mod_sync_36 (by decide) rfl (by omega) (by decide) ?_
  refine sh_mti (show (sh_u2 I 0 0 0) 12 s = I 12 s from (sh_u2_row (by decide) _)) ?_
  refine sh_mp (fun w Z k => sh_if_ge (tgt := 46) dc_Mod_sync_37 (by decide) (fun _ => k) (fun z => absurd c0_37 z)) ?_
  refine sh_mp (fun w Z k => sh_iload_n dc_Mod_sync_46 rfl rfl k) ?_
  refine sh_mp (fun w Z k => sh_if_ne (tgt := 57) dc_Mod_sync_47 (by decide) (fun _ => k) (fun z => absurd z (by decide))) ?_
  refine sh_mp (fun w Z k => sh_iload_n dc_Mod_sync_57 rfl rfl k) ?_
  refine sh_mp (fun w Z k => sh_iconst (v := 1) dc_Mod_sync_58 (by decide) k) ?_
  refine sh_mp (fun w Z k => sh_icmp_ne (tgt := 69) dc_Mod_sync_59 (by decide) (fun _ => k) (fun z => absurd z (by decide))) ?_
  refine sh_mp (fun w Z k => sh_iload_n dc_Mod_sync_69 rfl rfl k) ?_
  refine sh_mp (fun w Z k => sh_bipush (v := 8) dc_Mod_sync_70 (by decide) k) ?_
  refine sh_mp (fun w Z k => sh_icmp_ne (tgt := 82) dc_Mod_sync_72 (by decide) (fun _ => k) (fun z => absurd z (by decide))) ?_
  refine sh_mp (fun w Z k => sh_iload_n dc_Mod_sync_82 rfl rfl k) ?_
  refine sh_mp (fun w Z k => sh_iconst (v := 2) dc_Mod_sync_83 (by decide) k) ?_
  refine sh_mp (fun w Z k => sh_isub dc_Mod_sync_84 k) ?_
  refine sh_mti (show (5 - 2 : Int32) = 3 from by decide) ?_
  refine sh_mp (fun w Z k => sh_aload_n dc_Mod_sync_85 rfl rfl k) ?_
  refine sh_mget 19 dc_Mod_sync_86 (by decide) fl_Mod_63 rfl rfl rfl rfl ?_
  refine sh_mp (fun w Z k => sh_iload_n dc_Mod_sync_89 rfl rfl k) ?_
  refine sh_miald 19 (l := 8) (k := s) dc_Mod_sync_90 (by decide) rfl (by omega) (by decide) ?_
  refine sh_mti (show (sh_u2 I 0 0 0) 19 s = I 19 s from (sh_u2_row (by decide) _)) ?_
  refine sh_mp (fun w Z k => sh_icmp_ge (tgt := 110) dc_Mod_sync_91 (by decide) (fun _ => k) (fun z => absurd c1_91 z)) ?_
  refine sh_mp (fun w Z k => sh_iconst (v := (-1)) dc_Mod_sync_110 (by decide) k) ?_
  exact sh_me (fun w => sh_ireturn dc_Mod_sync_111 rfl rfl (by decide) (by decide))
theorem mx_Mod_sync_5_2 {mq : Nat} {A : Nat → Nat} {I : sh_II} {D : sh_DD} {s : Nat} (hs : s < 8) (c0_37 : 0 ≤ (I 12 s)) (c1_91 : ¬ (I 19 s) ≤ 3) : sh_mM mq A md_Mod_sync [.ref mq, .int (nI s), .int 5] I D (some (.int (I 18 ((6 * s) + 3)))) (sh_u2 I 0 0 0) D := by
  refine sh_mp (fun w Z k => sh_aload_n dc_Mod_sync_0 rfl rfl k) ?_
  refine sh_mp (fun w Z k => sh_iconst (v := 0) dc_Mod_sync_1 (by decide) k) ?_
  refine sh_mput 0 dc_Mod_sync_2 (by decide) fl_Mod_78 rfl ?_
  refine sh_mp (fun w Z k => sh_aload_n dc_Mod_sync_5 rfl rfl k) ?_
  refine sh_mp (fun w Z k => sh_iload_n dc_Mod_sync_6 rfl rfl k) ?_
  refine sh_mp (fun w Z k => sh_bipush (v := 8) dc_Mod_sync_7 (by decide) k) ?_
  refine sh_mcall (As := [.int (nI s), .int 8]) (fun w hw => by obtain ⟨fs, hw⟩ := hw; exact sh_virt dc_Mod_sync_9 lm_Mod_out ln_Mod_82 wd_953 wd_29 rfl rfl (Nat.le_of_ble_eq_true rfl) hw rfl) (mx_Mod_out_2 (a := nI s) (b := 8) (nI_pos (by omega)) (sp_lt8 hs)) ⟨(Nat.le_of_ble_eq_true rfl), (Nat.le_of_ble_eq_true rfl), (Nat.le_of_ble_eq_true rfl), (Nat.le_of_ble_eq_true rfl)⟩ ?_
  show sh_mW _ _ _ (_, _, [.int 0]) (sh_u2 I 0 0 0) D _ _ _ _ _
  refine sh_mp (fun w Z k => sh_if_ne (tgt := 25) dc_Mod_sync_12 (by decide) (fun z => absurd (by decide) z) (fun _ => k)) ?_
  refine sh_mp (fun w Z k => sh_aload_n dc_Mod_sync_15 rfl rfl k) ?_
  refine sh_mp (fun w Z k => sh_iload_n dc_Mod_sync_16 rfl rfl k) ?_
  refine sh_mp (fun w Z k => sh_bipush (v := 9) dc_Mod_sync_17 (by decide) k) ?_
  refine sh_mcall (As := [.int 5, .int 9]) (fun w hw => by obtain ⟨fs, hw⟩ := hw; exact sh_virt dc_Mod_sync_19 lm_Mod_out ln_Mod_82 wd_953 wd_29 rfl rfl (Nat.le_of_ble_eq_true rfl) hw rfl) (mx_Mod_out_2 (a := 5) (b := 9) (by decide) (by decide)) ⟨(Nat.le_of_ble_eq_true rfl), (Nat.le_of_ble_eq_true rfl), (Nat.le_of_ble_eq_true rfl), (Nat.le_of_ble_eq_true rfl)⟩ ?_
  show sh_mW _ _ _ (_, _, [.int 0]) (sh_u2 I 0 0 0) D _ _ _ _ _
  refine sh_mp (fun w Z k => sh_if_eq (tgt := 31) dc_Mod_sync_22 (by decide) (fun _ => k) (fun z => absurd (by decide) z)) ?_
  refine sh_mp (fun w Z k => sh_aload_n dc_Mod_sync_31 rfl rfl k) ?_
  refine sh_mget 12 dc_Mod_sync_32 (by decide) fl_Mod_42 rfl rfl rfl rfl ?_
  refine sh_mp (fun w Z k => sh_iload_n dc_Mod_sync_35 rfl rfl k) ?_
  refine sh_miald 12 (l := 8) (k := s) dc_Mod_sync_36 (by decide) rfl (by omega) (by decide) ?_
  refine sh_mti (show (sh_u2 I 0 0 0) 12 s = I 12 s from (sh_u2_row (by decide) _)) ?_
  refine sh_mp (fun w Z k => sh_if_ge (tgt := 46) dc_Mod_sync_37 (by decide) (fun _ => k) (fun z => absurd c0_37 z)) ?_
  refine sh_mp (fun w Z k => sh_iload_n dc_Mod_sync_46 rfl rfl k) ?_
  refine sh_mp (fun w Z k => sh_if_ne (tgt := 57) dc_Mod_sync_47 (by decide) (fun _ => k) (fun z => absurd z (by decide))) ?_
  refine sh_mp (fun w Z k => sh_iload_n dc_Mod_sync_57 rfl rfl k) ?_
  refine sh_mp (fun w Z k => sh_iconst (v := 1) dc_Mod_sync_58 (by decide) k) ?_
  refine sh_mp (fun w Z k => sh_icmp_ne (tgt := 69) dc_Mod_sync_59 (by decide) (fun _ => k) (fun z => absurd z (by decide))) ?_
  refine sh_mp (fun w Z k => sh_iload_n dc_Mod_sync_69 rfl rfl k) ?_
  refine sh_mp (fun w Z k => sh_bipush (v := 8) dc_Mod_sync_70 (by decide) k) ?_
  refine sh_mp (fun w Z k => sh_icmp_ne (tgt := 82) dc_Mod_sync_72 (by decide) (fun _ => k) (fun z => absurd z (by decide))) ?_
  refine sh_mp (fun w Z k => sh_iload_n dc_Mod_sync_82 rfl rfl k) ?_
  refine sh_mp (fun w Z k => sh_iconst (v := 2) dc_Mod_sync_83 (by decide) k) ?_
  refine sh_mp (fun w Z k => sh_isub dc_Mod_sync_84 k) ?_
  refine sh_mti (show (5 - 2 : Int32) = 3 from by decide) ?_
  refine sh_mp (fun w Z k => sh_aload_n dc_Mod_sync_85 rfl rfl k) ?_
  refine sh_mget 19 dc_Mod_sync_86 (by decide) fl_Mod_63 rfl rfl rfl rfl ?_
  refine sh_mp (fun w Z k => sh_iload_n dc_Mod_sync_89 rfl rfl k) ?_
  refine sh_miald 19 (l := 8) (k := s) dc_Mod_sync_90 (by decide) rfl (by omega) (by decide) ?_
  refine sh_mti (show (sh_u2 I 0 0 0) 19 s = I 19 s from (sh_u2_row (by decide) _)) ?_
  refine sh_mp (fun w Z k => sh_icmp_ge (tgt := 110) dc_Mod_sync_91 (by decide) (fun z => absurd z c1_91) (fun _ => k)) ?_
  refine sh_mp (fun w Z k => sh_aload_n dc_Mod_sync_94 rfl rfl k) ?_
  refine sh_mget 18 dc_Mod_sync_95 (by decide) fl_Mod_60 rfl rfl rfl rfl ?_
  refine sh_mp (fun w Z k => sh_bipush (v := 6) dc_Mod_sync_98 (by decide) k) ?_
  refine sh_mp (fun w Z k => sh_iload_n dc_Mod_sync_100 rfl rfl k) ?_
  refine sh_mp (fun w Z k => sh_imul dc_Mod_sync_101 k) ?_
  refine sh_mp (fun w Z k => sh_iload_n dc_Mod_sync_102 rfl rfl k) ?_
  refine sh_mp (fun w Z k => sh_iadd dc_Mod_sync_103 k) ?_
  refine sh_mp (fun w Z k => sh_iconst (v := 2) dc_Mod_sync_104 (by decide) k) ?_
  refine sh_mp (fun w Z k => sh_isub dc_Mod_sync_105 k) ?_
  refine sh_miald 18 (l := 48) (k := (6 * s) + 3) dc_Mod_sync_106 (by decide) (sh_nsub (c := 2) (sh_nadd (sh_nmul rfl rfl) rfl) (by decide)) (by omega) (by decide) ?_
  refine sh_mti (show (sh_u2 I 0 0 0) 18 ((6 * s) + 3) = I 18 ((6 * s) + 3) from (sh_u2_row (by decide) _)) ?_
  refine sh_mp (fun w Z k => sh_goto_ (tgt := 111) dc_Mod_sync_107 (by decide) k) ?_
  exact sh_me (fun w => sh_ireturn dc_Mod_sync_111 rfl rfl (by decide) (by decide))
theorem mx_Mod_sync_5_3 {mq : Nat} {A : Nat → Nat} {I : sh_II} {D : sh_DD} {s : Nat} (hs : s < 8) (c0_37 : ¬ 0 ≤ (I 12 s)) : sh_mM mq A md_Mod_sync [.ref mq, .int (nI s), .int 5] I D (some (.int 0)) (sh_u2 (sh_u2 I 0 0 0) 0 0 2) D := by
  refine sh_mp (fun w Z k => sh_aload_n dc_Mod_sync_0 rfl rfl k) ?_
  refine sh_mp (fun w Z k => sh_iconst (v := 0) dc_Mod_sync_1 (by decide) k) ?_
  refine sh_mput 0 dc_Mod_sync_2 (by decide) fl_Mod_78 rfl ?_
  refine sh_mp (fun w Z k => sh_aload_n dc_Mod_sync_5 rfl rfl k) ?_
  refine sh_mp (fun w Z k => sh_iload_n dc_Mod_sync_6 rfl rfl k) ?_
  refine sh_mp (fun w Z k => sh_bipush (v := 8) dc_Mod_sync_7 (by decide) k) ?_
  refine sh_mcall (As := [.int (nI s), .int 8]) (fun w hw => by obtain ⟨fs, hw⟩ := hw; exact sh_virt dc_Mod_sync_9 lm_Mod_out ln_Mod_82 wd_953 wd_29 rfl rfl (Nat.le_of_ble_eq_true rfl) hw rfl) (mx_Mod_out_2 (a := nI s) (b := 8) (nI_pos (by omega)) (sp_lt8 hs)) ⟨(Nat.le_of_ble_eq_true rfl), (Nat.le_of_ble_eq_true rfl), (Nat.le_of_ble_eq_true rfl), (Nat.le_of_ble_eq_true rfl)⟩ ?_
  show sh_mW _ _ _ (_, _, [.int 0]) (sh_u2 I 0 0 0) D _ _ _ _ _
  refine sh_mp (fun w Z k => sh_if_ne (tgt := 25) dc_Mod_sync_12 (by decide) (fun z => absurd (by decide) z) (fun _ => k)) ?_
  refine sh_mp (fun w Z k => sh_aload_n dc_Mod_sync_15 rfl rfl k) ?_
  refine sh_mp (fun w Z k => sh_iload_n dc_Mod_sync_16 rfl rfl k) ?_
  refine sh_mp (fun w Z k => sh_bipush (v := 9) dc_Mod_sync_17 (by decide) k) ?_
  refine sh_mcall (As := [.int 5, .int 9]) (fun w hw => by obtain ⟨fs, hw⟩ := hw; exact sh_virt dc_Mod_sync_19 lm_Mod_out ln_Mod_82 wd_953 wd_29 rfl rfl (Nat.le_of_ble_eq_true rfl) hw rfl) (mx_Mod_out_2 (a := 5) (b := 9) (by decide) (by decide)) ⟨(Nat.le_of_ble_eq_true rfl), (Nat.le_of_ble_eq_true rfl), (Nat.le_of_ble_eq_true rfl), (Nat.le_of_ble_eq_true rfl)⟩ ?_
  show sh_mW _ _ _ (_, _, [.int 0]) (sh_u2 I 0 0 0) D _ _ _ _ _
  refine sh_mp (fun w Z k => sh_if_eq (tgt := 31) dc_Mod_sync_22 (by decide) (fun _ => k) (fun z => absurd (by decide) z)) ?_
  refine sh_mp (fun w Z k => sh_aload_n dc_Mod_sync_31 rfl rfl k) ?_
  refine sh_mget 12 dc_Mod_sync_32 (by decide) fl_Mod_42 rfl rfl rfl rfl ?_
  refine sh_mp (fun w Z k => sh_iload_n dc_Mod_sync_35 rfl rfl k) ?_
  refine sh_miald 12 (l := 8) (k := s) dc_Mod_sync_36 (by decide) rfl (by omega) (by decide) ?_
  refine sh_mti (show (sh_u2 I 0 0 0) 12 s = I 12 s from (sh_u2_row (by decide) _)) ?_
  refine sh_mp (fun w Z k => sh_if_ge (tgt := 46) dc_Mod_sync_37 (by decide) (fun z => absurd z c0_37) (fun _ => k)) ?_
  refine sh_mp (fun w Z k => sh_aload_n dc_Mod_sync_40 rfl rfl k) ?_
  refine sh_mp (fun w Z k => sh_iconst (v := 2) dc_Mod_sync_41 (by decide) k) ?_
  refine sh_mcall (As := [.int 2]) (fun w hw => by obtain ⟨fs, hw⟩ := hw; exact sh_virt dc_Mod_sync_42 lm_Mod_fail ln_Mod_86 wd_957 wd_30 rfl rfl (Nat.le_of_ble_eq_true rfl) hw rfl) (mx_Mod_fail_1 (c := 2)) ⟨(Nat.le_of_ble_eq_true rfl), (Nat.le_of_ble_eq_true rfl), (Nat.le_of_ble_eq_true rfl), (Nat.le_of_ble_eq_true rfl)⟩ ?_
  show sh_mW _ _ _ (_, _, [.int 0]) (sh_u2 (sh_u2 I 0 0 0) 0 0 2) D _ _ _ _ _
  exact sh_me (fun w => sh_ireturn dc_Mod_sync_45 rfl rfl (by decide) (by decide))
theorem mx_Mod_sync_6_1 {mq : Nat} {A : Nat → Nat} {I : sh_II} {D : sh_DD} {s : Nat} (hs : s < 8) (c0_37 : 0 ≤ (I 12 s)) (c1_91 : (I 19 s) ≤ 4) : sh_mM mq A md_Mod_sync [.ref mq, .int (nI s), .int 6] I D (some (.int (-1))) (sh_u2 I 0 0 0) D := by
  refine sh_mp (fun w Z k => sh_aload_n dc_Mod_sync_0 rfl rfl k) ?_
  refine sh_mp (fun w Z k => sh_iconst (v := 0) dc_Mod_sync_1 (by decide) k) ?_
  refine sh_mput 0 dc_Mod_sync_2 (by decide) fl_Mod_78 rfl ?_
  refine sh_mp (fun w Z k => sh_aload_n dc_Mod_sync_5 rfl rfl k) ?_
  refine sh_mp (fun w Z k => sh_iload_n dc_Mod_sync_6 rfl rfl k) ?_
  refine sh_mp (fun w Z k => sh_bipush (v := 8) dc_Mod_sync_7 (by decide) k) ?_
  refine sh_mcall (As := [.int (nI s), .int 8]) (fun w hw => by obtain ⟨fs, hw⟩ := hw; exact sh_virt dc_Mod_sync_9 lm_Mod_out ln_Mod_82 wd_953 wd_29 rfl rfl (Nat.le_of_ble_eq_true rfl) hw rfl) (mx_Mod_out_2 (a := nI s) (b := 8) (nI_pos (by omega)) (sp_lt8 hs)) ⟨(Nat.le_of_ble_eq_true rfl), (Nat.le_of_ble_eq_true rfl), (Nat.le_of_ble_eq_true rfl), (Nat.le_of_ble_eq_true rfl)⟩ ?_
  show sh_mW _ _ _ (_, _, [.int 0]) (sh_u2 I 0 0 0) D _ _ _ _ _
  refine sh_mp (fun w Z k => sh_if_ne (tgt := 25) dc_Mod_sync_12 (by decide) (fun z => absurd (by decide) z) (fun _ => k)) ?_
  refine sh_mp (fun w Z k => sh_aload_n dc_Mod_sync_15 rfl rfl k) ?_
  refine sh_mp (fun w Z k => sh_iload_n dc_Mod_sync_16 rfl rfl k) ?_
  refine sh_mp (fun w Z k => sh_bipush (v := 9) dc_Mod_sync_17 (by decide) k) ?_
  refine sh_mcall (As := [.int 6, .int 9]) (fun w hw => by obtain ⟨fs, hw⟩ := hw; exact sh_virt dc_Mod_sync_19 lm_Mod_out ln_Mod_82 wd_953 wd_29 rfl rfl (Nat.le_of_ble_eq_true rfl) hw rfl) (mx_Mod_out_2 (a := 6) (b := 9) (by decide) (by decide)) ⟨(Nat.le_of_ble_eq_true rfl), (Nat.le_of_ble_eq_true rfl), (Nat.le_of_ble_eq_true rfl), (Nat.le_of_ble_eq_true rfl)⟩ ?_
  show sh_mW _ _ _ (_, _, [.int 0]) (sh_u2 I 0 0 0) D _ _ _ _ _
  refine sh_mp (fun w Z k => sh_if_eq (tgt := 31) dc_Mod_sync_22 (by decide) (fun _ => k) (fun z => absurd (by decide) z)) ?_
  refine sh_mp (fun w Z k => sh_aload_n dc_Mod_sync_31 rfl rfl k) ?_
  refine sh_mget 12 dc_Mod_sync_32 (by decide) fl_Mod_42 rfl rfl rfl rfl ?_
  refine sh_mp (fun w Z k => sh_iload_n dc_Mod_sync_35 rfl rfl k) ?_
  refine sh_miald 12 (l := 8) (k := s) dc_Mod_sync_36 (by decide) rfl (by omega) (by decide) ?_
  refine sh_mti (show (sh_u2 I 0 0 0) 12 s = I 12 s from (sh_u2_row (by decide) _)) ?_
  refine sh_mp (fun w Z k => sh_if_ge (tgt := 46) dc_Mod_sync_37 (by decide) (fun _ => k) (fun z => absurd c0_37 z)) ?_
  refine sh_mp (fun w Z k => sh_iload_n dc_Mod_sync_46 rfl rfl k) ?_
  refine sh_mp (fun w Z k => sh_if_ne (tgt := 57) dc_Mod_sync_47 (by decide) (fun _ => k) (fun z => absurd z (by decide))) ?_
  refine sh_mp (fun w Z k => sh_iload_n dc_Mod_sync_57 rfl rfl k) ?_
  refine sh_mp (fun w Z k => sh_iconst (v := 1) dc_Mod_sync_58 (by decide) k) ?_
  refine sh_mp (fun w Z k => sh_icmp_ne (tgt := 69) dc_Mod_sync_59 (by decide) (fun _ => k) (fun z => absurd z (by decide))) ?_
  refine sh_mp (fun w Z k => sh_iload_n dc_Mod_sync_69 rfl rfl k) ?_
  refine sh_mp (fun w Z k => sh_bipush (v := 8) dc_Mod_sync_70 (by decide) k) ?_
  refine sh_mp (fun w Z k => sh_icmp_ne (tgt := 82) dc_Mod_sync_72 (by decide) (fun _ => k) (fun z => absurd z (by decide))) ?_
  refine sh_mp (fun w Z k => sh_iload_n dc_Mod_sync_82 rfl rfl k) ?_
  refine sh_mp (fun w Z k => sh_iconst (v := 2) dc_Mod_sync_83 (by decide) k) ?_
  refine sh_mp (fun w Z k => sh_isub dc_Mod_sync_84 k) ?_
  refine sh_mti (show (6 - 2 : Int32) = 4 from by decide) ?_
  refine sh_mp (fun w Z k => sh_aload_n dc_Mod_sync_85 rfl rfl k) ?_
  refine sh_mget 19 dc_Mod_sync_86 (by decide) fl_Mod_63 rfl rfl rfl rfl ?_
  refine sh_mp (fun w Z k => sh_iload_n dc_Mod_sync_89 rfl rfl k) ?_
  refine sh_miald 19 (l := 8) (k := s) dc_Mod_sync_90 (by decide) rfl (by omega) (by decide) ?_
  refine sh_mti (show (sh_u2 I 0 0 0) 19 s = I 19 s from (sh_u2_row (by decide) _)) ?_
  refine sh_mp (fun w Z k => sh_icmp_ge (tgt := 110) dc_Mod_sync_91 (by decide) (fun _ => k) (fun z => absurd c1_91 z)) ?_
  refine sh_mp (fun w Z k => sh_iconst (v := (-1)) dc_Mod_sync_110 (by decide) k) ?_
  exact sh_me (fun w => sh_ireturn dc_Mod_sync_111 rfl rfl (by decide) (by decide))
theorem mx_Mod_sync_6_2 {mq : Nat} {A : Nat → Nat} {I : sh_II} {D : sh_DD} {s : Nat} (hs : s < 8) (c0_37 : 0 ≤ (I 12 s)) (c1_91 : ¬ (I 19 s) ≤ 4) : sh_mM mq A md_Mod_sync [.ref mq, .int (nI s), .int 6] I D (some (.int (I 18 ((6 * s) + 4)))) (sh_u2 I 0 0 0) D := by
  refine sh_mp (fun w Z k => sh_aload_n dc_Mod_sync_0 rfl rfl k) ?_
  refine sh_mp (fun w Z k => sh_iconst (v := 0) dc_Mod_sync_1 (by decide) k) ?_
  refine sh_mput 0 dc_Mod_sync_2 (by decide) fl_Mod_78 rfl ?_
  refine sh_mp (fun w Z k => sh_aload_n dc_Mod_sync_5 rfl rfl k) ?_
  refine sh_mp (fun w Z k => sh_iload_n dc_Mod_sync_6 rfl rfl k) ?_
  refine sh_mp (fun w Z k => sh_bipush (v := 8) dc_Mod_sync_7 (by decide) k) ?_
  refine sh_mcall (As := [.int (nI s), .int 8]) (fun w hw => by obtain ⟨fs, hw⟩ := hw; exact sh_virt dc_Mod_sync_9 lm_Mod_out ln_Mod_82 wd_953 wd_29 rfl rfl (Nat.le_of_ble_eq_true rfl) hw rfl) (mx_Mod_out_2 (a := nI s) (b := 8) (nI_pos (by omega)) (sp_lt8 hs)) ⟨(Nat.le_of_ble_eq_true rfl), (Nat.le_of_ble_eq_true rfl), (Nat.le_of_ble_eq_true rfl), (Nat.le_of_ble_eq_true rfl)⟩ ?_
  show sh_mW _ _ _ (_, _, [.int 0]) (sh_u2 I 0 0 0) D _ _ _ _ _
  refine sh_mp (fun w Z k => sh_if_ne (tgt := 25) dc_Mod_sync_12 (by decide) (fun z => absurd (by decide) z) (fun _ => k)) ?_
  refine sh_mp (fun w Z k => sh_aload_n dc_Mod_sync_15 rfl rfl k) ?_
  refine sh_mp (fun w Z k => sh_iload_n dc_Mod_sync_16 rfl rfl k) ?_
  refine sh_mp (fun w Z k => sh_bipush (v := 9) dc_Mod_sync_17 (by decide) k) ?_
  refine sh_mcall (As := [.int 6, .int 9]) (fun w hw => by obtain ⟨fs, hw⟩ := hw; exact sh_virt dc_Mod_sync_19 lm_Mod_out ln_Mod_82 wd_953 wd_29 rfl rfl (Nat.le_of_ble_eq_true rfl) hw rfl) (mx_Mod_out_2 (a := 6) (b := 9) (by decide) (by decide)) ⟨(Nat.le_of_ble_eq_true rfl), (Nat.le_of_ble_eq_true rfl), (Nat.le_of_ble_eq_true rfl), (Nat.le_of_ble_eq_true rfl)⟩ ?_
  show sh_mW _ _ _ (_, _, [.int 0]) (sh_u2 I 0 0 0) D _ _ _ _ _
  refine sh_mp (fun w Z k => sh_if_eq (tgt := 31) dc_Mod_sync_22 (by decide) (fun _ => k) (fun z => absurd (by decide) z)) ?_
  refine sh_mp (fun w Z k => sh_aload_n dc_Mod_sync_31 rfl rfl k) ?_
  refine sh_mget 12 dc_Mod_sync_32 (by decide) fl_Mod_42 rfl rfl rfl rfl ?_
  refine sh_mp (fun w Z k => sh_iload_n dc_Mod_sync_35 rfl rfl k) ?_
  refine sh_miald 12 (l := 8) (k := s) dc_Mod_sync_36 (by decide) rfl (by omega) (by decide) ?_
  refine sh_mti (show (sh_u2 I 0 0 0) 12 s = I 12 s from (sh_u2_row (by decide) _)) ?_
  refine sh_mp (fun w Z k => sh_if_ge (tgt := 46) dc_Mod_sync_37 (by decide) (fun _ => k) (fun z => absurd c0_37 z)) ?_
  refine sh_mp (fun w Z k => sh_iload_n dc_Mod_sync_46 rfl rfl k) ?_
  refine sh_mp (fun w Z k => sh_if_ne (tgt := 57) dc_Mod_sync_47 (by decide) (fun _ => k) (fun z => absurd z (by decide))) ?_
  refine sh_mp (fun w Z k => sh_iload_n dc_Mod_sync_57 rfl rfl k) ?_
  refine sh_mp (fun w Z k => sh_iconst (v := 1) dc_Mod_sync_58 (by decide) k) ?_
  refine sh_mp (fun w Z k => sh_icmp_ne (tgt := 69) dc_Mod_sync_59 (by decide) (fun _ => k) (fun z => absurd z (by decide))) ?_
  refine sh_mp (fun w Z k => sh_iload_n dc_Mod_sync_69 rfl rfl k) ?_
  refine sh_mp (fun w Z k => sh_bipush (v := 8) dc_Mod_sync_70 (by decide) k) ?_
  refine sh_mp (fun w Z k => sh_icmp_ne (tgt := 82) dc_Mod_sync_72 (by decide) (fun _ => k) (fun z => absurd z (by decide))) ?_
  refine sh_mp (fun w Z k => sh_iload_n dc_Mod_sync_82 rfl rfl k) ?_
  refine sh_mp (fun w Z k => sh_iconst (v := 2) dc_Mod_sync_83 (by decide) k) ?_
  refine sh_mp (fun w Z k => sh_isub dc_Mod_sync_84 k) ?_
  refine sh_mti (show (6 - 2 : Int32) = 4 from by decide) ?_
  refine sh_mp (fun w Z k => sh_aload_n dc_Mod_sync_85 rfl rfl k) ?_
  refine sh_mget 19 dc_Mod_sync_86 (by decide) fl_Mod_63 rfl rfl rfl rfl ?_
  refine sh_mp (fun w Z k => sh_iload_n dc_Mod_sync_89 rfl rfl k) ?_
  refine sh_miald 19 (l := 8) (k := s) dc_Mod_sync_90 (by decide) rfl (by omega) (by decide) ?_
  refine sh_mti (show (sh_u2 I 0 0 0) 19 s = I 19 s from (sh_u2_row (by decide) _)) ?_
  refine sh_mp (fun w Z k => sh_icmp_ge (tgt := 110) dc_Mod_sync_91 (by decide) (fun z => absurd z c1_91) (fun _ => k)) ?_
  refine sh_mp (fun w Z k => sh_aload_n dc_Mod_sync_94 rfl rfl k) ?_
  refine sh_mget 18 dc_Mod_sync_95 (by decide) fl_Mod_60 rfl rfl rfl rfl ?_
  refine sh_mp (fun w Z k => sh_bipush (v := 6) dc_Mod_sync_98 (by decide) k) ?_
  refine sh_mp (fun w Z k => sh_iload_n dc_Mod_sync_100 rfl rfl k) ?_
  refine sh_mp (fun w Z k => sh_imul dc_Mod_sync_101 k) ?_
  refine sh_mp (fun w Z k => sh_iload_n dc_Mod_sync_102 rfl rfl k) ?_
  refine sh_mp (fun w Z k => sh_iadd dc_Mod_sync_103 k) ?_
  refine sh_mp (fun w Z k => sh_iconst (v := 2) dc_Mod_sync_104 (by decide) k) ?_
  refine sh_mp (fun w Z k => sh_isub dc_Mod_sync_105 k) ?_
  refine sh_miald 18 (l := 48) (k := (6 * s) + 4) dc_Mod_sync_106 (by decide) (sh_nsub (c := 2) (sh_nadd (sh_nmul rfl rfl) rfl) (by decide)) (by omega) (by decide) ?_
  refine sh_mti (show (sh_u2 I 0 0 0) 18 ((6 * s) + 4) = I 18 ((6 * s) + 4) from (sh_u2_row (by decide) _)) ?_
  refine sh_mp (fun w Z k => sh_goto_ (tgt := 111) dc_Mod_sync_107 (by decide) k) ?_
  exact sh_me (fun w => sh_ireturn dc_Mod_sync_111 rfl rfl (by decide) (by decide))
theorem mx_Mod_sync_6_3 {mq : Nat} {A : Nat → Nat} {I : sh_II} {D : sh_DD} {s : Nat} (hs : s < 8) (c0_37 : ¬ 0 ≤ (I 12 s)) : sh_mM mq A md_Mod_sync [.ref mq, .int (nI s), .int 6] I D (some (.int 0)) (sh_u2 (sh_u2 I 0 0 0) 0 0 2) D := by
  refine sh_mp (fun w Z k => sh_aload_n dc_Mod_sync_0 rfl rfl k) ?_
  refine sh_mp (fun w Z k => sh_iconst (v := 0) dc_Mod_sync_1 (by decide) k) ?_
  refine sh_mput 0 dc_Mod_sync_2 (by decide) fl_Mod_78 rfl ?_
  refine sh_mp (fun w Z k => sh_aload_n dc_Mod_sync_5 rfl rfl k) ?_
  refine sh_mp (fun w Z k => sh_iload_n dc_Mod_sync_6 rfl rfl k) ?_
  refine sh_mp (fun w Z k => sh_bipush (v := 8) dc_Mod_sync_7 (by decide) k) ?_
  refine sh_mcall (As := [.int (nI s), .int 8]) (fun w hw => by obtain ⟨fs, hw⟩ := hw; exact sh_virt dc_Mod_sync_9 lm_Mod_out ln_Mod_82 wd_953 wd_29 rfl rfl (Nat.le_of_ble_eq_true rfl) hw rfl) (mx_Mod_out_2 (a := nI s) (b := 8) (nI_pos (by omega)) (sp_lt8 hs)) ⟨(Nat.le_of_ble_eq_true rfl), (Nat.le_of_ble_eq_true rfl), (Nat.le_of_ble_eq_true rfl), (Nat.le_of_ble_eq_true rfl)⟩ ?_
  show sh_mW _ _ _ (_, _, [.int 0]) (sh_u2 I 0 0 0) D _ _ _ _ _
  refine sh_mp (fun w Z k => sh_if_ne (tgt := 25) dc_Mod_sync_12 (by decide) (fun z => absurd (by decide) z) (fun _ => k)) ?_
  refine sh_mp (fun w Z k => sh_aload_n dc_Mod_sync_15 rfl rfl k) ?_
  refine sh_mp (fun w Z k => sh_iload_n dc_Mod_sync_16 rfl rfl k) ?_
  refine sh_mp (fun w Z k => sh_bipush (v := 9) dc_Mod_sync_17 (by decide) k) ?_
  refine sh_mcall (As := [.int 6, .int 9]) (fun w hw => by obtain ⟨fs, hw⟩ := hw; exact sh_virt dc_Mod_sync_19 lm_Mod_out ln_Mod_82 wd_953 wd_29 rfl rfl (Nat.le_of_ble_eq_true rfl) hw rfl) (mx_Mod_out_2 (a := 6) (b := 9) (by decide) (by decide)) ⟨(Nat.le_of_ble_eq_true rfl), (Nat.le_of_ble_eq_true rfl), (Nat.le_of_ble_eq_true rfl), (Nat.le_of_ble_eq_true rfl)⟩ ?_
  show sh_mW _ _ _ (_, _, [.int 0]) (sh_u2 I 0 0 0) D _ _ _ _ _
  refine sh_mp (fun w Z k => sh_if_eq (tgt := 31) dc_Mod_sync_22 (by decide) (fun _ => k) (fun z => absurd (by decide) z)) ?_
  refine sh_mp (fun w Z k => sh_aload_n dc_Mod_sync_31 rfl rfl k) ?_
  refine sh_mget 12 dc_Mod_sync_32 (by decide) fl_Mod_42 rfl rfl rfl rfl ?_
  refine sh_mp (fun w Z k => sh_iload_n dc_Mod_sync_35 rfl rfl k) ?_
  refine sh_miald 12 (l := 8) (k := s) dc_Mod_sync_36 (by decide) rfl (by omega) (by decide) ?_
  refine sh_mti (show (sh_u2 I 0 0 0) 12 s = I 12 s from (sh_u2_row (by decide) _)) ?_
  refine sh_mp (fun w Z k => sh_if_ge (tgt := 46) dc_Mod_sync_37 (by decide) (fun z => absurd z c0_37) (fun _ => k)) ?_
  refine sh_mp (fun w Z k => sh_aload_n dc_Mod_sync_40 rfl rfl k) ?_
  refine sh_mp (fun w Z k => sh_iconst (v := 2) dc_Mod_sync_41 (by decide) k) ?_
  refine sh_mcall (As := [.int 2]) (fun w hw => by obtain ⟨fs, hw⟩ := hw; exact sh_virt dc_Mod_sync_42 lm_Mod_fail ln_Mod_86 wd_957 wd_30 rfl rfl (Nat.le_of_ble_eq_true rfl) hw rfl) (mx_Mod_fail_1 (c := 2)) ⟨(Nat.le_of_ble_eq_true rfl), (Nat.le_of_ble_eq_true rfl), (Nat.le_of_ble_eq_true rfl), (Nat.le_of_ble_eq_true rfl)⟩ ?_
  show sh_mW _ _ _ (_, _, [.int 0]) (sh_u2 (sh_u2 I 0 0 0) 0 0 2) D _ _ _ _ _
  exact sh_me (fun w => sh_ireturn dc_Mod_sync_45 rfl rfl (by decide) (by decide))
theorem mx_Mod_sync_7_1 {mq : Nat} {A : Nat → Nat} {I : sh_II} {D : sh_DD} {s : Nat} (hs : s < 8) (c0_37 : 0 ≤ (I 12 s)) (c1_91 : (I 19 s) ≤ 5) : sh_mM mq A md_Mod_sync [.ref mq, .int (nI s), .int 7] I D (some (.int (-1))) (sh_u2 I 0 0 0) D := by
  refine sh_mp (fun w Z k => sh_aload_n dc_Mod_sync_0 rfl rfl k) ?_
  refine sh_mp (fun w Z k => sh_iconst (v := 0) dc_Mod_sync_1 (by decide) k) ?_
  refine sh_mput 0 dc_Mod_sync_2 (by decide) fl_Mod_78 rfl ?_
  refine sh_mp (fun w Z k => sh_aload_n dc_Mod_sync_5 rfl rfl k) ?_
  refine sh_mp (fun w Z k => sh_iload_n dc_Mod_sync_6 rfl rfl k) ?_
  refine sh_mp (fun w Z k => sh_bipush (v := 8) dc_Mod_sync_7 (by decide) k) ?_
  refine sh_mcall (As := [.int (nI s), .int 8]) (fun w hw => by obtain ⟨fs, hw⟩ := hw; exact sh_virt dc_Mod_sync_9 lm_Mod_out ln_Mod_82 wd_953 wd_29 rfl rfl (Nat.le_of_ble_eq_true rfl) hw rfl) (mx_Mod_out_2 (a := nI s) (b := 8) (nI_pos (by omega)) (sp_lt8 hs)) ⟨(Nat.le_of_ble_eq_true rfl), (Nat.le_of_ble_eq_true rfl), (Nat.le_of_ble_eq_true rfl), (Nat.le_of_ble_eq_true rfl)⟩ ?_
  show sh_mW _ _ _ (_, _, [.int 0]) (sh_u2 I 0 0 0) D _ _ _ _ _
  refine sh_mp (fun w Z k => sh_if_ne (tgt := 25) dc_Mod_sync_12 (by decide) (fun z => absurd (by decide) z) (fun _ => k)) ?_
  refine sh_mp (fun w Z k => sh_aload_n dc_Mod_sync_15 rfl rfl k) ?_
  refine sh_mp (fun w Z k => sh_iload_n dc_Mod_sync_16 rfl rfl k) ?_
  refine sh_mp (fun w Z k => sh_bipush (v := 9) dc_Mod_sync_17 (by decide) k) ?_
  refine sh_mcall (As := [.int 7, .int 9]) (fun w hw => by obtain ⟨fs, hw⟩ := hw; exact sh_virt dc_Mod_sync_19 lm_Mod_out ln_Mod_82 wd_953 wd_29 rfl rfl (Nat.le_of_ble_eq_true rfl) hw rfl) (mx_Mod_out_2 (a := 7) (b := 9) (by decide) (by decide)) ⟨(Nat.le_of_ble_eq_true rfl), (Nat.le_of_ble_eq_true rfl), (Nat.le_of_ble_eq_true rfl), (Nat.le_of_ble_eq_true rfl)⟩ ?_
  show sh_mW _ _ _ (_, _, [.int 0]) (sh_u2 I 0 0 0) D _ _ _ _ _
  refine sh_mp (fun w Z k => sh_if_eq (tgt := 31) dc_Mod_sync_22 (by decide) (fun _ => k) (fun z => absurd (by decide) z)) ?_
  refine sh_mp (fun w Z k => sh_aload_n dc_Mod_sync_31 rfl rfl k) ?_
  refine sh_mget 12 dc_Mod_sync_32 (by decide) fl_Mod_42 rfl rfl rfl rfl ?_
  refine sh_mp (fun w Z k => sh_iload_n dc_Mod_sync_35 rfl rfl k) ?_
  refine sh_miald 12 (l := 8) (k := s) dc_Mod_sync_36 (by decide) rfl (by omega) (by decide) ?_
  refine sh_mti (show (sh_u2 I 0 0 0) 12 s = I 12 s from (sh_u2_row (by decide) _)) ?_
  refine sh_mp (fun w Z k => sh_if_ge (tgt := 46) dc_Mod_sync_37 (by decide) (fun _ => k) (fun z => absurd c0_37 z)) ?_
  refine sh_mp (fun w Z k => sh_iload_n dc_Mod_sync_46 rfl rfl k) ?_
  refine sh_mp (fun w Z k => sh_if_ne (tgt := 57) dc_Mod_sync_47 (by decide) (fun _ => k) (fun z => absurd z (by decide))) ?_
  refine sh_mp (fun w Z k => sh_iload_n dc_Mod_sync_57 rfl rfl k) ?_
  refine sh_mp (fun w Z k => sh_iconst (v := 1) dc_Mod_sync_58 (by decide) k) ?_
  refine sh_mp (fun w Z k => sh_icmp_ne (tgt := 69) dc_Mod_sync_59 (by decide) (fun _ => k) (fun z => absurd z (by decide))) ?_
  refine sh_mp (fun w Z k => sh_iload_n dc_Mod_sync_69 rfl rfl k) ?_
  refine sh_mp (fun w Z k => sh_bipush (v := 8) dc_Mod_sync_70 (by decide) k) ?_
  refine sh_mp (fun w Z k => sh_icmp_ne (tgt := 82) dc_Mod_sync_72 (by decide) (fun _ => k) (fun z => absurd z (by decide))) ?_
  refine sh_mp (fun w Z k => sh_iload_n dc_Mod_sync_82 rfl rfl k) ?_
  refine sh_mp (fun w Z k => sh_iconst (v := 2) dc_Mod_sync_83 (by decide) k) ?_
  refine sh_mp (fun w Z k => sh_isub dc_Mod_sync_84 k) ?_
  refine sh_mti (show (7 - 2 : Int32) = 5 from by decide) ?_
  refine sh_mp (fun w Z k => sh_aload_n dc_Mod_sync_85 rfl rfl k) ?_
  refine sh_mget 19 dc_Mod_sync_86 (by decide) fl_Mod_63 rfl rfl rfl rfl ?_
  refine sh_mp (fun w Z k => sh_iload_n dc_Mod_sync_89 rfl rfl k) ?_
  refine sh_miald 19 (l := 8) (k := s) dc_Mod_sync_90 (by decide) rfl (by omega) (by decide) ?_
  refine sh_mti (show (sh_u2 I 0 0 0) 19 s = I 19 s from (sh_u2_row (by decide) _)) ?_
  refine sh_mp (fun w Z k => sh_icmp_ge (tgt := 110) dc_Mod_sync_91 (by decide) (fun _ => k) (fun z => absurd c1_91 z)) ?_
  refine sh_mp (fun w Z k => sh_iconst (v := (-1)) dc_Mod_sync_110 (by decide) k) ?_
  exact sh_me (fun w => sh_ireturn dc_Mod_sync_111 rfl rfl (by decide) (by decide))
theorem mx_Mod_sync_7_2 {mq : Nat} {A : Nat → Nat} {I : sh_II} {D : sh_DD} {s : Nat} (hs : s < 8) (c0_37 : 0 ≤ (I 12 s)) (c1_91 : ¬ (I 19 s) ≤ 5) : sh_mM mq A md_Mod_sync [.ref mq, .int (nI s), .int 7] I D (some (.int (I 18 ((6 * s) + 5)))) (sh_u2 I 0 0 0) D := by
  refine sh_mp (fun w Z k => sh_aload_n dc_Mod_sync_0 rfl rfl k) ?_
  refine sh_mp (fun w Z k => sh_iconst (v := 0) dc_Mod_sync_1 (by decide) k) ?_
  refine sh_mput 0 dc_Mod_sync_2 (by decide) fl_Mod_78 rfl ?_
  refine sh_mp (fun w Z k => sh_aload_n dc_Mod_sync_5 rfl rfl k) ?_
  refine sh_mp (fun w Z k => sh_iload_n dc_Mod_sync_6 rfl rfl k) ?_
  refine sh_mp (fun w Z k => sh_bipush (v := 8) dc_Mod_sync_7 (by decide) k) ?_
  refine sh_mcall (As := [.int (nI s), .int 8]) (fun w hw => by obtain ⟨fs, hw⟩ := hw; exact sh_virt dc_Mod_sync_9 lm_Mod_out ln_Mod_82 wd_953 wd_29 rfl rfl (Nat.le_of_ble_eq_true rfl) hw rfl) (mx_Mod_out_2 (a := nI s) (b := 8) (nI_pos (by omega)) (sp_lt8 hs)) ⟨(Nat.le_of_ble_eq_true rfl), (Nat.le_of_ble_eq_true rfl), (Nat.le_of_ble_eq_true rfl), (Nat.le_of_ble_eq_true rfl)⟩ ?_
  show sh_mW _ _ _ (_, _, [.int 0]) (sh_u2 I 0 0 0) D _ _ _ _ _
  refine sh_mp (fun w Z k => sh_if_ne (tgt := 25) dc_Mod_sync_12 (by decide) (fun z => absurd (by decide) z) (fun _ => k)) ?_
  refine sh_mp (fun w Z k => sh_aload_n dc_Mod_sync_15 rfl rfl k) ?_
  refine sh_mp (fun w Z k => sh_iload_n dc_Mod_sync_16 rfl rfl k) ?_
  refine sh_mp (fun w Z k => sh_bipush (v := 9) dc_Mod_sync_17 (by decide) k) ?_
  refine sh_mcall (As := [.int 7, .int 9]) (fun w hw => by obtain ⟨fs, hw⟩ := hw; exact sh_virt dc_Mod_sync_19 lm_Mod_out ln_Mod_82 wd_953 wd_29 rfl rfl (Nat.le_of_ble_eq_true rfl) hw rfl) (mx_Mod_out_2 (a := 7) (b := 9) (by decide) (by decide)) ⟨(Nat.le_of_ble_eq_true rfl), (Nat.le_of_ble_eq_true rfl), (Nat.le_of_ble_eq_true rfl), (Nat.le_of_ble_eq_true rfl)⟩ ?_
  show sh_mW _ _ _ (_, _, [.int 0]) (sh_u2 I 0 0 0) D _ _ _ _ _
  refine sh_mp (fun w Z k => sh_if_eq (tgt := 31) dc_Mod_sync_22 (by decide) (fun _ => k) (fun z => absurd (by decide) z)) ?_
  refine sh_mp (fun w Z k => sh_aload_n dc_Mod_sync_31 rfl rfl k) ?_
  refine sh_mget 12 dc_Mod_sync_32 (by decide) fl_Mod_42 rfl rfl rfl rfl ?_
  refine sh_mp (fun w Z k => sh_iload_n dc_Mod_sync_35 rfl rfl k) ?_
  refine sh_miald 12 (l := 8) (k := s) dc_Mod_sync_36 (by decide) rfl (by omega) (by decide) ?_
  refine sh_mti (show (sh_u2 I 0 0 0) 12 s = I 12 s from (sh_u2_row (by decide) _)) ?_
  refine sh_mp (fun w Z k => sh_if_ge (tgt := 46) dc_Mod_sync_37 (by decide) (fun _ => k) (fun z => absurd c0_37 z)) ?_
  refine sh_mp (fun w Z k => sh_iload_n dc_Mod_sync_46 rfl rfl k) ?_
  refine sh_mp (fun w Z k => sh_if_ne (tgt := 57) dc_Mod_sync_47 (by decide) (fun _ => k) (fun z => absurd z (by decide))) ?_
  refine sh_mp (fun w Z k => sh_iload_n dc_Mod_sync_57 rfl rfl k) ?_
  refine sh_mp (fun w Z k => sh_iconst (v := 1) dc_Mod_sync_58 (by decide) k) ?_
  refine sh_mp (fun w Z k => sh_icmp_ne (tgt := 69) dc_Mod_sync_59 (by decide) (fun _ => k) (fun z => absurd z (by decide))) ?_
  refine sh_mp (fun w Z k => sh_iload_n dc_Mod_sync_69 rfl rfl k) ?_
  refine sh_mp (fun w Z k => sh_bipush (v := 8) dc_Mod_sync_70 (by decide) k) ?_
  refine sh_mp (fun w Z k => sh_icmp_ne (tgt := 82) dc_Mod_sync_72 (by decide) (fun _ => k) (fun z => absurd z (by decide))) ?_
  refine sh_mp (fun w Z k => sh_iload_n dc_Mod_sync_82 rfl rfl k) ?_
  refine sh_mp (fun w Z k => sh_iconst (v := 2) dc_Mod_sync_83 (by decide) k) ?_
  refine sh_mp (fun w Z k => sh_isub dc_Mod_sync_84 k) ?_
  refine sh_mti (show (7 - 2 : Int32) = 5 from by decide) ?_
  refine sh_mp (fun w Z k => sh_aload_n dc_Mod_sync_85 rfl rfl k) ?_
  refine sh_mget 19 dc_Mod_sync_86 (by decide) fl_Mod_63 rfl rfl rfl rfl ?_
  refine sh_mp (fun w Z k => sh_iload_n dc_Mod_sync_89 rfl rfl k) ?_
  refine sh_miald 19 (l := 8) (k := s) dc_Mod_sync_90 (by decide) rfl (by omega) (by decide) ?_
  refine sh_mti (show (sh_u2 I 0 0 0) 19 s = I 19 s from (sh_u2_row (by decide) _)) ?_
  refine sh_mp (fun w Z k => sh_icmp_ge (tgt := 110) dc_Mod_sync_91 (by decide) (fun z => absurd z c1_91) (fun _ => k)) ?_
  refine sh_mp (fun w Z k => sh_aload_n dc_Mod_sync_94 rfl rfl k) ?_
  refine sh_mget 18 dc_Mod_sync_95 (by decide) fl_Mod_60 rfl rfl rfl rfl ?_
  refine sh_mp (fun w Z k => sh_bipush (v := 6) dc_Mod_sync_98 (by decide) k) ?_
  refine sh_mp (fun w Z k => sh_iload_n dc_Mod_sync_100 rfl rfl k) ?_
  refine sh_mp (fun w Z k => sh_imul dc_Mod_sync_101 k) ?_
  refine sh_mp (fun w Z k => sh_iload_n dc_Mod_sync_102 rfl rfl k) ?_
  refine sh_mp (fun w Z k => sh_iadd dc_Mod_sync_103 k) ?_
  refine sh_mp (fun w Z k => sh_iconst (v := 2) dc_Mod_sync_104 (by decide) k) ?_
  refine sh_mp (fun w Z k => sh_isub dc_Mod_sync_105 k) ?_
  refine sh_miald 18 (l := 48) (k := (6 * s) + 5) dc_Mod_sync_106 (by decide) (sh_nsub (c := 2) (sh_nadd (sh_nmul rfl rfl) rfl) (by decide)) (by omega) (by decide) ?_
  refine sh_mti (show (sh_u2 I 0 0 0) 18 ((6 * s) + 5) = I 18 ((6 * s) + 5) from (sh_u2_row (by decide) _)) ?_
  refine sh_mp (fun w Z k => sh_goto_ (tgt := 111) dc_Mod_sync_107 (by decide) k) ?_
  exact sh_me (fun w => sh_ireturn dc_Mod_sync_111 rfl rfl (by decide) (by decide))
theorem mx_Mod_sync_7_3 {mq : Nat} {A : Nat → Nat} {I : sh_II} {D : sh_DD} {s : Nat} (hs : s < 8) (c0_37 : ¬ 0 ≤ (I 12 s)) : sh_mM mq A md_Mod_sync [.ref mq, .int (nI s), .int 7] I D (some (.int 0)) (sh_u2 (sh_u2 I 0 0 0) 0 0 2) D := by
  refine sh_mp (fun w Z k => sh_aload_n dc_Mod_sync_0 rfl rfl k) ?_
  refine sh_mp (fun w Z k => sh_iconst (v := 0) dc_Mod_sync_1 (by decide) k) ?_
  refine sh_mput 0 dc_Mod_sync_2 (by decide) fl_Mod_78 rfl ?_
  refine sh_mp (fun w Z k => sh_aload_n dc_Mod_sync_5 rfl rfl k) ?_
  refine sh_mp (fun w Z k => sh_iload_n dc_Mod_sync_6 rfl rfl k) ?_
  refine sh_mp (fun w Z k => sh_bipush (v := 8) dc_Mod_sync_7 (by decide) k) ?_
  refine sh_mcall (As := [.int (nI s), .int 8]) (fun w hw => by obtain ⟨fs, hw⟩ := hw; exact sh_virt dc_Mod_sync_9 lm_Mod_out ln_Mod_82 wd_953 wd_29 rfl rfl (Nat.le_of_ble_eq_true rfl) hw rfl) (mx_Mod_out_2 (a := nI s) (b := 8) (nI_pos (by omega)) (sp_lt8 hs)) ⟨(Nat.le_of_ble_eq_true rfl), (Nat.le_of_ble_eq_true rfl), (Nat.le_of_ble_eq_true rfl), (Nat.le_of_ble_eq_true rfl)⟩ ?_
  show sh_mW _ _ _ (_, _, [.int 0]) (sh_u2 I 0 0 0) D _ _ _ _ _
  refine sh_mp (fun w Z k => sh_if_ne (tgt := 25) dc_Mod_sync_12 (by decide) (fun z => absurd (by decide) z) (fun _ => k)) ?_
  refine sh_mp (fun w Z k => sh_aload_n dc_Mod_sync_15 rfl rfl k) ?_
  refine sh_mp (fun w Z k => sh_iload_n dc_Mod_sync_16 rfl rfl k) ?_
  refine sh_mp (fun w Z k => sh_bipush (v := 9) dc_Mod_sync_17 (by decide) k) ?_
  refine sh_mcall (As := [.int 7, .int 9]) (fun w hw => by obtain ⟨fs, hw⟩ := hw; exact sh_virt dc_Mod_sync_19 lm_Mod_out ln_Mod_82 wd_953 wd_29 rfl rfl (Nat.le_of_ble_eq_true rfl) hw rfl) (mx_Mod_out_2 (a := 7) (b := 9) (by decide) (by decide)) ⟨(Nat.le_of_ble_eq_true rfl), (Nat.le_of_ble_eq_true rfl), (Nat.le_of_ble_eq_true rfl), (Nat.le_of_ble_eq_true rfl)⟩ ?_
  show sh_mW _ _ _ (_, _, [.int 0]) (sh_u2 I 0 0 0) D _ _ _ _ _
  refine sh_mp (fun w Z k => sh_if_eq (tgt := 31) dc_Mod_sync_22 (by decide) (fun _ => k) (fun z => absurd (by decide) z)) ?_
  refine sh_mp (fun w Z k => sh_aload_n dc_Mod_sync_31 rfl rfl k) ?_
  refine sh_mget 12 dc_Mod_sync_32 (by decide) fl_Mod_42 rfl rfl rfl rfl ?_
  refine sh_mp (fun w Z k => sh_iload_n dc_Mod_sync_35 rfl rfl k) ?_
  refine sh_miald 12 (l := 8) (k := s) dc_Mod_sync_36 (by decide) rfl (by omega) (by decide) ?_
  refine sh_mti (show (sh_u2 I 0 0 0) 12 s = I 12 s from (sh_u2_row (by decide) _)) ?_
  refine sh_mp (fun w Z k => sh_if_ge (tgt := 46) dc_Mod_sync_37 (by decide) (fun z => absurd z c0_37) (fun _ => k)) ?_
  refine sh_mp (fun w Z k => sh_aload_n dc_Mod_sync_40 rfl rfl k) ?_
  refine sh_mp (fun w Z k => sh_iconst (v := 2) dc_Mod_sync_41 (by decide) k) ?_
  refine sh_mcall (As := [.int 2]) (fun w hw => by obtain ⟨fs, hw⟩ := hw; exact sh_virt dc_Mod_sync_42 lm_Mod_fail ln_Mod_86 wd_957 wd_30 rfl rfl (Nat.le_of_ble_eq_true rfl) hw rfl) (mx_Mod_fail_1 (c := 2)) ⟨(Nat.le_of_ble_eq_true rfl), (Nat.le_of_ble_eq_true rfl), (Nat.le_of_ble_eq_true rfl), (Nat.le_of_ble_eq_true rfl)⟩ ?_
  show sh_mW _ _ _ (_, _, [.int 0]) (sh_u2 (sh_u2 I 0 0 0) 0 0 2) D _ _ _ _ _
  exact sh_me (fun w => sh_ireturn dc_Mod_sync_45 rfl rfl (by decide) (by decide))
theorem mx_Mod_sync_8_1 {mq : Nat} {A : Nat → Nat} {I : sh_II} {D : sh_DD} {s : Nat} (hs : s < 8) (c0_37 : 0 ≤ (I 12 s)) : sh_mM mq A md_Mod_sync [.ref mq, .int (nI s), .int 8] I D (some (.int (I 15 s))) (sh_u2 I 0 0 0) D := by
  refine sh_mp (fun w Z k => sh_aload_n dc_Mod_sync_0 rfl rfl k) ?_
  refine sh_mp (fun w Z k => sh_iconst (v := 0) dc_Mod_sync_1 (by decide) k) ?_
  refine sh_mput 0 dc_Mod_sync_2 (by decide) fl_Mod_78 rfl ?_
  refine sh_mp (fun w Z k => sh_aload_n dc_Mod_sync_5 rfl rfl k) ?_
  refine sh_mp (fun w Z k => sh_iload_n dc_Mod_sync_6 rfl rfl k) ?_
  refine sh_mp (fun w Z k => sh_bipush (v := 8) dc_Mod_sync_7 (by decide) k) ?_
  refine sh_mcall (As := [.int (nI s), .int 8]) (fun w hw => by obtain ⟨fs, hw⟩ := hw; exact sh_virt dc_Mod_sync_9 lm_Mod_out ln_Mod_82 wd_953 wd_29 rfl rfl (Nat.le_of_ble_eq_true rfl) hw rfl) (mx_Mod_out_2 (a := nI s) (b := 8) (nI_pos (by omega)) (sp_lt8 hs)) ⟨(Nat.le_of_ble_eq_true rfl), (Nat.le_of_ble_eq_true rfl), (Nat.le_of_ble_eq_true rfl), (Nat.le_of_ble_eq_true rfl)⟩ ?_
  show sh_mW _ _ _ (_, _, [.int 0]) (sh_u2 I 0 0 0) D _ _ _ _ _
  refine sh_mp (fun w Z k => sh_if_ne (tgt := 25) dc_Mod_sync_12 (by decide) (fun z => absurd (by decide) z) (fun _ => k)) ?_
  refine sh_mp (fun w Z k => sh_aload_n dc_Mod_sync_15 rfl rfl k) ?_
  refine sh_mp (fun w Z k => sh_iload_n dc_Mod_sync_16 rfl rfl k) ?_
  refine sh_mp (fun w Z k => sh_bipush (v := 9) dc_Mod_sync_17 (by decide) k) ?_
  refine sh_mcall (As := [.int 8, .int 9]) (fun w hw => by obtain ⟨fs, hw⟩ := hw; exact sh_virt dc_Mod_sync_19 lm_Mod_out ln_Mod_82 wd_953 wd_29 rfl rfl (Nat.le_of_ble_eq_true rfl) hw rfl) (mx_Mod_out_2 (a := 8) (b := 9) (by decide) (by decide)) ⟨(Nat.le_of_ble_eq_true rfl), (Nat.le_of_ble_eq_true rfl), (Nat.le_of_ble_eq_true rfl), (Nat.le_of_ble_eq_true rfl)⟩ ?_
  show sh_mW _ _ _ (_, _, [.int 0]) (sh_u2 I 0 0 0) D _ _ _ _ _
  refine sh_mp (fun w Z k => sh_if_eq (tgt := 31) dc_Mod_sync_22 (by decide) (fun _ => k) (fun z => absurd (by decide) z)) ?_
  refine sh_mp (fun w Z k => sh_aload_n dc_Mod_sync_31 rfl rfl k) ?_
  refine sh_mget 12 dc_Mod_sync_32 (by decide) fl_Mod_42 rfl rfl rfl rfl ?_
  refine sh_mp (fun w Z k => sh_iload_n dc_Mod_sync_35 rfl rfl k) ?_
  refine sh_miald 12 (l := 8) (k := s) dc_Mod_sync_36 (by decide) rfl (by omega) (by decide) ?_
  refine sh_mti (show (sh_u2 I 0 0 0) 12 s = I 12 s from (sh_u2_row (by decide) _)) ?_
  refine sh_mp (fun w Z k => sh_if_ge (tgt := 46) dc_Mod_sync_37 (by decide) (fun _ => k) (fun z => absurd c0_37 z)) ?_
  refine sh_mp (fun w Z k => sh_iload_n dc_Mod_sync_46 rfl rfl k) ?_
  refine sh_mp (fun w Z k => sh_if_ne (tgt := 57) dc_Mod_sync_47 (by decide) (fun _ => k) (fun z => absurd z (by decide))) ?_
  refine sh_mp (fun w Z k => sh_iload_n dc_Mod_sync_57 rfl rfl k) ?_
  refine sh_mp (fun w Z k => sh_iconst (v := 1) dc_Mod_sync_58 (by decide) k) ?_
  refine sh_mp (fun w Z k => sh_icmp_ne (tgt := 69) dc_Mod_sync_59 (by decide) (fun _ => k) (fun z => absurd z (by decide))) ?_
  refine sh_mp (fun w Z k => sh_iload_n dc_Mod_sync_69 rfl rfl k) ?_
  refine sh_mp (fun w Z k => sh_bipush (v := 8) dc_Mod_sync_70 (by decide) k) ?_
  refine sh_mp (fun w Z k => sh_icmp_ne (tgt := 82) dc_Mod_sync_72 (by decide) (fun z => absurd (by decide) z) (fun _ => k)) ?_
  refine sh_mp (fun w Z k => sh_aload_n dc_Mod_sync_75 rfl rfl k) ?_
  refine sh_mget 15 dc_Mod_sync_76 (by decide) fl_Mod_51 rfl rfl rfl rfl ?_
  refine sh_mp (fun w Z k => sh_iload_n dc_Mod_sync_79 rfl rfl k) ?_
  refine sh_miald 15 (l := 8) (k := s) dc_Mod_sync_80 (by decide) rfl (by omega) (by decide) ?_
  refine sh_mti (show (sh_u2 I 0 0 0) 15 s = I 15 s from (sh_u2_row (by decide) _)) ?_
  exact sh_me (fun w => sh_ireturn dc_Mod_sync_81 rfl rfl (by decide) (by decide))
theorem mx_Mod_sync_8_2 {mq : Nat} {A : Nat → Nat} {I : sh_II} {D : sh_DD} {s : Nat} (hs : s < 8) (c0_37 : ¬ 0 ≤ (I 12 s)) : sh_mM mq A md_Mod_sync [.ref mq, .int (nI s), .int 8] I D (some (.int 0)) (sh_u2 (sh_u2 I 0 0 0) 0 0 2) D := by
  refine sh_mp (fun w Z k => sh_aload_n dc_Mod_sync_0 rfl rfl k) ?_
  refine sh_mp (fun w Z k => sh_iconst (v := 0) dc_Mod_sync_1 (by decide) k) ?_
  refine sh_mput 0 dc_Mod_sync_2 (by decide) fl_Mod_78 rfl ?_
  refine sh_mp (fun w Z k => sh_aload_n dc_Mod_sync_5 rfl rfl k) ?_
  refine sh_mp (fun w Z k => sh_iload_n dc_Mod_sync_6 rfl rfl k) ?_
  refine sh_mp (fun w Z k => sh_bipush (v := 8) dc_Mod_sync_7 (by decide) k) ?_
  refine sh_mcall (As := [.int (nI s), .int 8]) (fun w hw => by obtain ⟨fs, hw⟩ := hw; exact sh_virt dc_Mod_sync_9 lm_Mod_out ln_Mod_82 wd_953 wd_29 rfl rfl (Nat.le_of_ble_eq_true rfl) hw rfl) (mx_Mod_out_2 (a := nI s) (b := 8) (nI_pos (by omega)) (sp_lt8 hs)) ⟨(Nat.le_of_ble_eq_true rfl), (Nat.le_of_ble_eq_true rfl), (Nat.le_of_ble_eq_true rfl), (Nat.le_of_ble_eq_true rfl)⟩ ?_
  show sh_mW _ _ _ (_, _, [.int 0]) (sh_u2 I 0 0 0) D _ _ _ _ _
  refine sh_mp (fun w Z k => sh_if_ne (tgt := 25) dc_Mod_sync_12 (by decide) (fun z => absurd (by decide) z) (fun _ => k)) ?_
  refine sh_mp (fun w Z k => sh_aload_n dc_Mod_sync_15 rfl rfl k) ?_
  refine sh_mp (fun w Z k => sh_iload_n dc_Mod_sync_16 rfl rfl k) ?_
  refine sh_mp (fun w Z k => sh_bipush (v := 9) dc_Mod_sync_17 (by decide) k) ?_
  refine sh_mcall (As := [.int 8, .int 9]) (fun w hw => by obtain ⟨fs, hw⟩ := hw; exact sh_virt dc_Mod_sync_19 lm_Mod_out ln_Mod_82 wd_953 wd_29 rfl rfl (Nat.le_of_ble_eq_true rfl) hw rfl) (mx_Mod_out_2 (a := 8) (b := 9) (by decide) (by decide)) ⟨(Nat.le_of_ble_eq_true rfl), (Nat.le_of_ble_eq_true rfl), (Nat.le_of_ble_eq_true rfl), (Nat.le_of_ble_eq_true rfl)⟩ ?_
  show sh_mW _ _ _ (_, _, [.int 0]) (sh_u2 I 0 0 0) D _ _ _ _ _
  refine sh_mp (fun w Z k => sh_if_eq (tgt := 31) dc_Mod_sync_22 (by decide) (fun _ => k) (fun z => absurd (by decide) z)) ?_
  refine sh_mp (fun w Z k => sh_aload_n dc_Mod_sync_31 rfl rfl k) ?_
  refine sh_mget 12 dc_Mod_sync_32 (by decide) fl_Mod_42 rfl rfl rfl rfl ?_
  refine sh_mp (fun w Z k => sh_iload_n dc_Mod_sync_35 rfl rfl k) ?_
  refine sh_miald 12 (l := 8) (k := s) dc_Mod_sync_36 (by decide) rfl (by omega) (by decide) ?_
  refine sh_mti (show (sh_u2 I 0 0 0) 12 s = I 12 s from (sh_u2_row (by decide) _)) ?_
  refine sh_mp (fun w Z k => sh_if_ge (tgt := 46) dc_Mod_sync_37 (by decide) (fun z => absurd z c0_37) (fun _ => k)) ?_
  refine sh_mp (fun w Z k => sh_aload_n dc_Mod_sync_40 rfl rfl k) ?_
  refine sh_mp (fun w Z k => sh_iconst (v := 2) dc_Mod_sync_41 (by decide) k) ?_
  refine sh_mcall (As := [.int 2]) (fun w hw => by obtain ⟨fs, hw⟩ := hw; exact sh_virt dc_Mod_sync_42 lm_Mod_fail ln_Mod_86 wd_957 wd_30 rfl rfl (Nat.le_of_ble_eq_true rfl) hw rfl) (mx_Mod_fail_1 (c := 2)) ⟨(Nat.le_of_ble_eq_true rfl), (Nat.le_of_ble_eq_true rfl), (Nat.le_of_ble_eq_true rfl), (Nat.le_of_ble_eq_true rfl)⟩ ?_
  show sh_mW _ _ _ (_, _, [.int 0]) (sh_u2 (sh_u2 I 0 0 0) 0 0 2) D _ _ _ _ _
  exact sh_me (fun w => sh_ireturn dc_Mod_sync_45 rfl rfl (by decide) (by decide))
theorem mx_Mod_sync_b_1 {mq : Nat} {A : Nat → Nat} {I : sh_II} {D : sh_DD} {s : Nat} {o : Int32} (hs : s < 8) (c0_19 : o < 0) : sh_mM mq A md_Mod_sync [.ref mq, .int (nI s), .int o] I D (some (.int 0)) (sh_u2 (sh_u2 I 0 0 0) 0 0 1) D := by
  refine sh_mp (fun w Z k => sh_aload_n dc_Mod_sync_0 rfl rfl k) ?_
  refine sh_mp (fun w Z k => sh_iconst (v := 0) dc_Mod_sync_1 (by decide) k) ?_
  refine sh_mput 0 dc_Mod_sync_2 (by decide) fl_Mod_78 rfl ?_
  refine sh_mp (fun w Z k => sh_aload_n dc_Mod_sync_5 rfl rfl k) ?_
  refine sh_mp (fun w Z k => sh_iload_n dc_Mod_sync_6 rfl rfl k) ?_
  refine sh_mp (fun w Z k => sh_bipush (v := 8) dc_Mod_sync_7 (by decide) k) ?_
  refine sh_mcall (As := [.int (nI s), .int 8]) (fun w hw => by obtain ⟨fs, hw⟩ := hw; exact sh_virt dc_Mod_sync_9 lm_Mod_out ln_Mod_82 wd_953 wd_29 rfl rfl (Nat.le_of_ble_eq_true rfl) hw rfl) (mx_Mod_out_2 (a := nI s) (b := 8) (nI_pos (by omega)) (sp_lt8 hs)) ⟨(Nat.le_of_ble_eq_true rfl), (Nat.le_of_ble_eq_true rfl), (Nat.le_of_ble_eq_true rfl), (Nat.le_of_ble_eq_true rfl)⟩ ?_
  show sh_mW _ _ _ (_, _, [.int 0]) (sh_u2 I 0 0 0) D _ _ _ _ _
  refine sh_mp (fun w Z k => sh_if_ne (tgt := 25) dc_Mod_sync_12 (by decide) (fun z => absurd (by decide) z) (fun _ => k)) ?_
  refine sh_mp (fun w Z k => sh_aload_n dc_Mod_sync_15 rfl rfl k) ?_
  refine sh_mp (fun w Z k => sh_iload_n dc_Mod_sync_16 rfl rfl k) ?_
  refine sh_mp (fun w Z k => sh_bipush (v := 9) dc_Mod_sync_17 (by decide) k) ?_
  refine sh_mcall (As := [.int o, .int 9]) (fun w hw => by obtain ⟨fs, hw⟩ := hw; exact sh_virt dc_Mod_sync_19 lm_Mod_out ln_Mod_82 wd_953 wd_29 rfl rfl (Nat.le_of_ble_eq_true rfl) hw rfl) (mx_Mod_out_1 (a := o) (b := 9) c0_19) ⟨(Nat.le_of_ble_eq_true rfl), (Nat.le_of_ble_eq_true rfl), (Nat.le_of_ble_eq_true rfl), (Nat.le_of_ble_eq_true rfl)⟩ ?_
  show sh_mW _ _ _ (_, _, [.int 1]) (sh_u2 I 0 0 0) D _ _ _ _ _
  refine sh_mp (fun w Z k => sh_if_eq (tgt := 31) dc_Mod_sync_22 (by decide) (fun z => absurd z (by decide)) (fun _ => k)) ?_
  refine sh_mp (fun w Z k => sh_aload_n dc_Mod_sync_25 rfl rfl k) ?_
  refine sh_mp (fun w Z k => sh_iconst (v := 1) dc_Mod_sync_26 (by decide) k) ?_
  refine sh_mcall (As := [.int 1]) (fun w hw => by obtain ⟨fs, hw⟩ := hw; exact sh_virt dc_Mod_sync_27 lm_Mod_fail ln_Mod_86 wd_957 wd_30 rfl rfl (Nat.le_of_ble_eq_true rfl) hw rfl) (mx_Mod_fail_1 (c := 1)) ⟨(Nat.le_of_ble_eq_true rfl), (Nat.le_of_ble_eq_true rfl), (Nat.le_of_ble_eq_true rfl), (Nat.le_of_ble_eq_true rfl)⟩ ?_
  show sh_mW _ _ _ (_, _, [.int 0]) (sh_u2 (sh_u2 I 0 0 0) 0 0 1) D _ _ _ _ _
  exact sh_me (fun w => sh_ireturn dc_Mod_sync_30 rfl rfl (by decide) (by decide))
theorem mx_Mod_sync_b_2 {mq : Nat} {A : Nat → Nat} {I : sh_II} {D : sh_DD} {s : Nat} {o : Int32} (hs : s < 8) (c0_19 : ¬ o < 0) (c1_19 : o < 9) (c2_37 : 0 ≤ (I 12 s)) (c3_47 : o = 0) : sh_mM mq A md_Mod_sync [.ref mq, .int (nI s), .int o] I D (some (.int (I 12 s))) (sh_u2 I 0 0 0) D := by
  refine sh_mp (fun w Z k => sh_aload_n dc_Mod_sync_0 rfl rfl k) ?_
  refine sh_mp (fun w Z k => sh_iconst (v := 0) dc_Mod_sync_1 (by decide) k) ?_
  refine sh_mput 0 dc_Mod_sync_2 (by decide) fl_Mod_78 rfl ?_
  refine sh_mp (fun w Z k => sh_aload_n dc_Mod_sync_5 rfl rfl k) ?_
  refine sh_mp (fun w Z k => sh_iload_n dc_Mod_sync_6 rfl rfl k) ?_
  refine sh_mp (fun w Z k => sh_bipush (v := 8) dc_Mod_sync_7 (by decide) k) ?_
  refine sh_mcall (As := [.int (nI s), .int 8]) (fun w hw => by obtain ⟨fs, hw⟩ := hw; exact sh_virt dc_Mod_sync_9 lm_Mod_out ln_Mod_82 wd_953 wd_29 rfl rfl (Nat.le_of_ble_eq_true rfl) hw rfl) (mx_Mod_out_2 (a := nI s) (b := 8) (nI_pos (by omega)) (sp_lt8 hs)) ⟨(Nat.le_of_ble_eq_true rfl), (Nat.le_of_ble_eq_true rfl), (Nat.le_of_ble_eq_true rfl), (Nat.le_of_ble_eq_true rfl)⟩ ?_
  show sh_mW _ _ _ (_, _, [.int 0]) (sh_u2 I 0 0 0) D _ _ _ _ _
  refine sh_mp (fun w Z k => sh_if_ne (tgt := 25) dc_Mod_sync_12 (by decide) (fun z => absurd (by decide) z) (fun _ => k)) ?_
  refine sh_mp (fun w Z k => sh_aload_n dc_Mod_sync_15 rfl rfl k) ?_
  refine sh_mp (fun w Z k => sh_iload_n dc_Mod_sync_16 rfl rfl k) ?_
  refine sh_mp (fun w Z k => sh_bipush (v := 9) dc_Mod_sync_17 (by decide) k) ?_
  refine sh_mcall (As := [.int o, .int 9]) (fun w hw => by obtain ⟨fs, hw⟩ := hw; exact sh_virt dc_Mod_sync_19 lm_Mod_out ln_Mod_82 wd_953 wd_29 rfl rfl (Nat.le_of_ble_eq_true rfl) hw rfl) (mx_Mod_out_2 (a := o) (b := 9) c0_19 c1_19) ⟨(Nat.le_of_ble_eq_true rfl), (Nat.le_of_ble_eq_true rfl), (Nat.le_of_ble_eq_true rfl), (Nat.le_of_ble_eq_true rfl)⟩ ?_
  show sh_mW _ _ _ (_, _, [.int 0]) (sh_u2 I 0 0 0) D _ _ _ _ _
  refine sh_mp (fun w Z k => sh_if_eq (tgt := 31) dc_Mod_sync_22 (by decide) (fun _ => k) (fun z => absurd (by decide) z)) ?_
  refine sh_mp (fun w Z k => sh_aload_n dc_Mod_sync_31 rfl rfl k) ?_
  refine sh_mget 12 dc_Mod_sync_32 (by decide) fl_Mod_42 rfl rfl rfl rfl ?_
  refine sh_mp (fun w Z k => sh_iload_n dc_Mod_sync_35 rfl rfl k) ?_
  refine sh_miald 12 (l := 8) (k := s) dc_Mod_sync_36 (by decide) rfl (by omega) (by decide) ?_
  refine sh_mti (show (sh_u2 I 0 0 0) 12 s = I 12 s from (sh_u2_row (by decide) _)) ?_
  refine sh_mp (fun w Z k => sh_if_ge (tgt := 46) dc_Mod_sync_37 (by decide) (fun _ => k) (fun z => absurd c2_37 z)) ?_
  refine sh_mp (fun w Z k => sh_iload_n dc_Mod_sync_46 rfl rfl k) ?_
  refine sh_mp (fun w Z k => sh_if_ne (tgt := 57) dc_Mod_sync_47 (by decide) (fun z => absurd c3_47 z) (fun _ => k)) ?_
  refine sh_mp (fun w Z k => sh_aload_n dc_Mod_sync_50 rfl rfl k) ?_
  refine sh_mget 12 dc_Mod_sync_51 (by decide) fl_Mod_42 rfl rfl rfl rfl ?_
  refine sh_mp (fun w Z k => sh_iload_n dc_Mod_sync_54 rfl rfl k) ?_
  refine sh_miald 12 (l := 8) (k := s) dc_Mod_sync_55 (by decide) rfl (by omega) (by decide) ?_
  refine sh_mti (show (sh_u2 I 0 0 0) 12 s = I 12 s from (sh_u2_row (by decide) _)) ?_
  exact sh_me (fun w => sh_ireturn dc_Mod_sync_56 rfl rfl (by decide) (by decide))
theorem mx_Mod_sync_b_3 {mq : Nat} {A : Nat → Nat} {I : sh_II} {D : sh_DD} {s : Nat} {o : Int32} (hs : s < 8) (c0_19 : ¬ o < 0) (c1_19 : o < 9) (c2_37 : 0 ≤ (I 12 s)) (c3_47 : ¬ o = 0) (c4_59 : o = 1) : sh_mM mq A md_Mod_sync [.ref mq, .int (nI s), .int o] I D (some (.int (I 19 s))) (sh_u2 I 0 0 0) D := by
  refine sh_mp (fun w Z k => sh_aload_n dc_Mod_sync_0 rfl rfl k) ?_
  refine sh_mp (fun w Z k => sh_iconst (v := 0) dc_Mod_sync_1 (by decide) k) ?_
  refine sh_mput 0 dc_Mod_sync_2 (by decide) fl_Mod_78 rfl ?_
  refine sh_mp (fun w Z k => sh_aload_n dc_Mod_sync_5 rfl rfl k) ?_
  refine sh_mp (fun w Z k => sh_iload_n dc_Mod_sync_6 rfl rfl k) ?_
  refine sh_mp (fun w Z k => sh_bipush (v := 8) dc_Mod_sync_7 (by decide) k) ?_
  refine sh_mcall (As := [.int (nI s), .int 8]) (fun w hw => by obtain ⟨fs, hw⟩ := hw; exact sh_virt dc_Mod_sync_9 lm_Mod_out ln_Mod_82 wd_953 wd_29 rfl rfl (Nat.le_of_ble_eq_true rfl) hw rfl) (mx_Mod_out_2 (a := nI s) (b := 8) (nI_pos (by omega)) (sp_lt8 hs)) ⟨(Nat.le_of_ble_eq_true rfl), (Nat.le_of_ble_eq_true rfl), (Nat.le_of_ble_eq_true rfl), (Nat.le_of_ble_eq_true rfl)⟩ ?_
  show sh_mW _ _ _ (_, _, [.int 0]) (sh_u2 I 0 0 0) D _ _ _ _ _
  refine sh_mp (fun w Z k => sh_if_ne (tgt := 25) dc_Mod_sync_12 (by decide) (fun z => absurd (by decide) z) (fun _ => k)) ?_
  refine sh_mp (fun w Z k => sh_aload_n dc_Mod_sync_15 rfl rfl k) ?_
  refine sh_mp (fun w Z k => sh_iload_n dc_Mod_sync_16 rfl rfl k) ?_
  refine sh_mp (fun w Z k => sh_bipush (v := 9) dc_Mod_sync_17 (by decide) k) ?_
  refine sh_mcall (As := [.int o, .int 9]) (fun w hw => by obtain ⟨fs, hw⟩ := hw; exact sh_virt dc_Mod_sync_19 lm_Mod_out ln_Mod_82 wd_953 wd_29 rfl rfl (Nat.le_of_ble_eq_true rfl) hw rfl) (mx_Mod_out_2 (a := o) (b := 9) c0_19 c1_19) ⟨(Nat.le_of_ble_eq_true rfl), (Nat.le_of_ble_eq_true rfl), (Nat.le_of_ble_eq_true rfl), (Nat.le_of_ble_eq_true rfl)⟩ ?_
  show sh_mW _ _ _ (_, _, [.int 0]) (sh_u2 I 0 0 0) D _ _ _ _ _
  refine sh_mp (fun w Z k => sh_if_eq (tgt := 31) dc_Mod_sync_22 (by decide) (fun _ => k) (fun z => absurd (by decide) z)) ?_
  refine sh_mp (fun w Z k => sh_aload_n dc_Mod_sync_31 rfl rfl k) ?_
  refine sh_mget 12 dc_Mod_sync_32 (by decide) fl_Mod_42 rfl rfl rfl rfl ?_
  refine sh_mp (fun w Z k => sh_iload_n dc_Mod_sync_35 rfl rfl k) ?_
  refine sh_miald 12 (l := 8) (k := s) dc_Mod_sync_36 (by decide) rfl (by omega) (by decide) ?_
  refine sh_mti (show (sh_u2 I 0 0 0) 12 s = I 12 s from (sh_u2_row (by decide) _)) ?_
  refine sh_mp (fun w Z k => sh_if_ge (tgt := 46) dc_Mod_sync_37 (by decide) (fun _ => k) (fun z => absurd c2_37 z)) ?_
  refine sh_mp (fun w Z k => sh_iload_n dc_Mod_sync_46 rfl rfl k) ?_
  refine sh_mp (fun w Z k => sh_if_ne (tgt := 57) dc_Mod_sync_47 (by decide) (fun _ => k) (fun z => absurd z c3_47)) ?_
  refine sh_mp (fun w Z k => sh_iload_n dc_Mod_sync_57 rfl rfl k) ?_
  refine sh_mp (fun w Z k => sh_iconst (v := 1) dc_Mod_sync_58 (by decide) k) ?_
  refine sh_mp (fun w Z k => sh_icmp_ne (tgt := 69) dc_Mod_sync_59 (by decide) (fun z => absurd c4_59 z) (fun _ => k)) ?_
  refine sh_mp (fun w Z k => sh_aload_n dc_Mod_sync_62 rfl rfl k) ?_
  refine sh_mget 19 dc_Mod_sync_63 (by decide) fl_Mod_63 rfl rfl rfl rfl ?_
  refine sh_mp (fun w Z k => sh_iload_n dc_Mod_sync_66 rfl rfl k) ?_
  refine sh_miald 19 (l := 8) (k := s) dc_Mod_sync_67 (by decide) rfl (by omega) (by decide) ?_
  refine sh_mti (show (sh_u2 I 0 0 0) 19 s = I 19 s from (sh_u2_row (by decide) _)) ?_
  exact sh_me (fun w => sh_ireturn dc_Mod_sync_68 rfl rfl (by decide) (by decide))
theorem mx_Mod_sync_b_4 {mq : Nat} {A : Nat → Nat} {I : sh_II} {D : sh_DD} {s : Nat} {o : Int32} (hs : s < 8) (c0_19 : ¬ o < 0) (c1_19 : o < 9) (c2_37 : 0 ≤ (I 12 s)) (c3_47 : ¬ o = 0) (c4_59 : ¬ o = 1) (c5_72 : o = 8) : sh_mM mq A md_Mod_sync [.ref mq, .int (nI s), .int o] I D (some (.int (I 15 s))) (sh_u2 I 0 0 0) D := by
  refine sh_mp (fun w Z k => sh_aload_n dc_Mod_sync_0 rfl rfl k) ?_
  refine sh_mp (fun w Z k => sh_iconst (v := 0) dc_Mod_sync_1 (by decide) k) ?_
  refine sh_mput 0 dc_Mod_sync_2 (by decide) fl_Mod_78 rfl ?_
  refine sh_mp (fun w Z k => sh_aload_n dc_Mod_sync_5 rfl rfl k) ?_
  refine sh_mp (fun w Z k => sh_iload_n dc_Mod_sync_6 rfl rfl k) ?_
  refine sh_mp (fun w Z k => sh_bipush (v := 8) dc_Mod_sync_7 (by decide) k) ?_
  refine sh_mcall (As := [.int (nI s), .int 8]) (fun w hw => by obtain ⟨fs, hw⟩ := hw; exact sh_virt dc_Mod_sync_9 lm_Mod_out ln_Mod_82 wd_953 wd_29 rfl rfl (Nat.le_of_ble_eq_true rfl) hw rfl) (mx_Mod_out_2 (a := nI s) (b := 8) (nI_pos (by omega)) (sp_lt8 hs)) ⟨(Nat.le_of_ble_eq_true rfl), (Nat.le_of_ble_eq_true rfl), (Nat.le_of_ble_eq_true rfl), (Nat.le_of_ble_eq_true rfl)⟩ ?_
  show sh_mW _ _ _ (_, _, [.int 0]) (sh_u2 I 0 0 0) D _ _ _ _ _
  refine sh_mp (fun w Z k => sh_if_ne (tgt := 25) dc_Mod_sync_12 (by decide) (fun z => absurd (by decide) z) (fun _ => k)) ?_
  refine sh_mp (fun w Z k => sh_aload_n dc_Mod_sync_15 rfl rfl k) ?_
  refine sh_mp (fun w Z k => sh_iload_n dc_Mod_sync_16 rfl rfl k) ?_
  refine sh_mp (fun w Z k => sh_bipush (v := 9) dc_Mod_sync_17 (by decide) k) ?_
  refine sh_mcall (As := [.int o, .int 9]) (fun w hw => by obtain ⟨fs, hw⟩ := hw; exact sh_virt dc_Mod_sync_19 lm_Mod_out ln_Mod_82 wd_953 wd_29 rfl rfl (Nat.le_of_ble_eq_true rfl) hw rfl) (mx_Mod_out_2 (a := o) (b := 9) c0_19 c1_19) ⟨(Nat.le_of_ble_eq_true rfl), (Nat.le_of_ble_eq_true rfl), (Nat.le_of_ble_eq_true rfl), (Nat.le_of_ble_eq_true rfl)⟩ ?_
  show sh_mW _ _ _ (_, _, [.int 0]) (sh_u2 I 0 0 0) D _ _ _ _ _
  refine sh_mp (fun w Z k => sh_if_eq (tgt := 31) dc_Mod_sync_22 (by decide) (fun _ => k) (fun z => absurd (by decide) z)) ?_
  refine sh_mp (fun w Z k => sh_aload_n dc_Mod_sync_31 rfl rfl k) ?_
  refine sh_mget 12 dc_Mod_sync_32 (by decide) fl_Mod_42 rfl rfl rfl rfl ?_
  refine sh_mp (fun w Z k => sh_iload_n dc_Mod_sync_35 rfl rfl k) ?_
  refine sh_miald 12 (l := 8) (k := s) dc_Mod_sync_36 (by decide) rfl (by omega) (by decide) ?_
  refine sh_mti (show (sh_u2 I 0 0 0) 12 s = I 12 s from (sh_u2_row (by decide) _)) ?_
  refine sh_mp (fun w Z k => sh_if_ge (tgt := 46) dc_Mod_sync_37 (by decide) (fun _ => k) (fun z => absurd c2_37 z)) ?_
  refine sh_mp (fun w Z k => sh_iload_n dc_Mod_sync_46 rfl rfl k) ?_
  refine sh_mp (fun w Z k => sh_if_ne (tgt := 57) dc_Mod_sync_47 (by decide) (fun _ => k) (fun z => absurd z c3_47)) ?_
  refine sh_mp (fun w Z k => sh_iload_n dc_Mod_sync_57 rfl rfl k) ?_
  refine sh_mp (fun w Z k => sh_iconst (v := 1) dc_Mod_sync_58 (by decide) k) ?_
  refine sh_mp (fun w Z k => sh_icmp_ne (tgt := 69) dc_Mod_sync_59 (by decide) (fun _ => k) (fun z => absurd z c4_59)) ?_
  refine sh_mp (fun w Z k => sh_iload_n dc_Mod_sync_69 rfl rfl k) ?_
  refine sh_mp (fun w Z k => sh_bipush (v := 8) dc_Mod_sync_70 (by decide) k) ?_
  refine sh_mp (fun w Z k => sh_icmp_ne (tgt := 82) dc_Mod_sync_72 (by decide) (fun z => absurd c5_72 z) (fun _ => k)) ?_
  refine sh_mp (fun w Z k => sh_aload_n dc_Mod_sync_75 rfl rfl k) ?_
  refine sh_mget 15 dc_Mod_sync_76 (by decide) fl_Mod_51 rfl rfl rfl rfl ?_
  refine sh_mp (fun w Z k => sh_iload_n dc_Mod_sync_79 rfl rfl k) ?_
  refine sh_miald 15 (l := 8) (k := s) dc_Mod_sync_80 (by decide) rfl (by omega) (by decide) ?_
  refine sh_mti (show (sh_u2 I 0 0 0) 15 s = I 15 s from (sh_u2_row (by decide) _)) ?_
  exact sh_me (fun w => sh_ireturn dc_Mod_sync_81 rfl rfl (by decide) (by decide))
theorem mx_Mod_sync_b_5 {mq : Nat} {A : Nat → Nat} {I : sh_II} {D : sh_DD} {s : Nat} {o : Int32} (hs : s < 8) (c0_19 : ¬ o < 0) (c1_19 : o < 9) (c2_37 : 0 ≤ (I 12 s)) (c3_47 : ¬ o = 0) (c4_59 : ¬ o = 1) (c5_72 : ¬ o = 8) (c6_91 : (I 19 s) ≤ (o - 2)) : sh_mM mq A md_Mod_sync [.ref mq, .int (nI s), .int o] I D (some (.int (-1))) (sh_u2 I 0 0 0) D := by
  refine sh_mp (fun w Z k => sh_aload_n dc_Mod_sync_0 rfl rfl k) ?_
  refine sh_mp (fun w Z k => sh_iconst (v := 0) dc_Mod_sync_1 (by decide) k) ?_
  refine sh_mput 0 dc_Mod_sync_2 (by decide) fl_Mod_78 rfl ?_
  refine sh_mp (fun w Z k => sh_aload_n dc_Mod_sync_5 rfl rfl k) ?_
  refine sh_mp (fun w Z k => sh_iload_n dc_Mod_sync_6 rfl rfl k) ?_
  refine sh_mp (fun w Z k => sh_bipush (v := 8) dc_Mod_sync_7 (by decide) k) ?_
  refine sh_mcall (As := [.int (nI s), .int 8]) (fun w hw => by obtain ⟨fs, hw⟩ := hw; exact sh_virt dc_Mod_sync_9 lm_Mod_out ln_Mod_82 wd_953 wd_29 rfl rfl (Nat.le_of_ble_eq_true rfl) hw rfl) (mx_Mod_out_2 (a := nI s) (b := 8) (nI_pos (by omega)) (sp_lt8 hs)) ⟨(Nat.le_of_ble_eq_true rfl), (Nat.le_of_ble_eq_true rfl), (Nat.le_of_ble_eq_true rfl), (Nat.le_of_ble_eq_true rfl)⟩ ?_
  show sh_mW _ _ _ (_, _, [.int 0]) (sh_u2 I 0 0 0) D _ _ _ _ _
  refine sh_mp (fun w Z k => sh_if_ne (tgt := 25) dc_Mod_sync_12 (by decide) (fun z => absurd (by decide) z) (fun _ => k)) ?_
  refine sh_mp (fun w Z k => sh_aload_n dc_Mod_sync_15 rfl rfl k) ?_
  refine sh_mp (fun w Z k => sh_iload_n dc_Mod_sync_16 rfl rfl k) ?_
  refine sh_mp (fun w Z k => sh_bipush (v := 9) dc_Mod_sync_17 (by decide) k) ?_
  refine sh_mcall (As := [.int o, .int 9]) (fun w hw => by obtain ⟨fs, hw⟩ := hw; exact sh_virt dc_Mod_sync_19 lm_Mod_out ln_Mod_82 wd_953 wd_29 rfl rfl (Nat.le_of_ble_eq_true rfl) hw rfl) (mx_Mod_out_2 (a := o) (b := 9) c0_19 c1_19) ⟨(Nat.le_of_ble_eq_true rfl), (Nat.le_of_ble_eq_true rfl), (Nat.le_of_ble_eq_true rfl), (Nat.le_of_ble_eq_true rfl)⟩ ?_
  show sh_mW _ _ _ (_, _, [.int 0]) (sh_u2 I 0 0 0) D _ _ _ _ _
  refine sh_mp (fun w Z k => sh_if_eq (tgt := 31) dc_Mod_sync_22 (by decide) (fun _ => k) (fun z => absurd (by decide) z)) ?_
  refine sh_mp (fun w Z k => sh_aload_n dc_Mod_sync_31 rfl rfl k) ?_
  refine sh_mget 12 dc_Mod_sync_32 (by decide) fl_Mod_42 rfl rfl rfl rfl ?_
  refine sh_mp (fun w Z k => sh_iload_n dc_Mod_sync_35 rfl rfl k) ?_
  refine sh_miald 12 (l := 8) (k := s) dc_Mod_sync_36 (by decide) rfl (by omega) (by decide) ?_
  refine sh_mti (show (sh_u2 I 0 0 0) 12 s = I 12 s from (sh_u2_row (by decide) _)) ?_
  refine sh_mp (fun w Z k => sh_if_ge (tgt := 46) dc_Mod_sync_37 (by decide) (fun _ => k) (fun z => absurd c2_37 z)) ?_
  refine sh_mp (fun w Z k => sh_iload_n dc_Mod_sync_46 rfl rfl k) ?_
  refine sh_mp (fun w Z k => sh_if_ne (tgt := 57) dc_Mod_sync_47 (by decide) (fun _ => k) (fun z => absurd z c3_47)) ?_
  refine sh_mp (fun w Z k => sh_iload_n dc_Mod_sync_57 rfl rfl k) ?_
  refine sh_mp (fun w Z k => sh_iconst (v := 1) dc_Mod_sync_58 (by decide) k) ?_
  refine sh_mp (fun w Z k => sh_icmp_ne (tgt := 69) dc_Mod_sync_59 (by decide) (fun _ => k) (fun z => absurd z c4_59)) ?_
  refine sh_mp (fun w Z k => sh_iload_n dc_Mod_sync_69 rfl rfl k) ?_
  refine sh_mp (fun w Z k => sh_bipush (v := 8) dc_Mod_sync_70 (by decide) k) ?_
  refine sh_mp (fun w Z k => sh_icmp_ne (tgt := 82) dc_Mod_sync_72 (by decide) (fun _ => k) (fun z => absurd z c5_72)) ?_
  refine sh_mp (fun w Z k => sh_iload_n dc_Mod_sync_82 rfl rfl k) ?_
  refine sh_mp (fun w Z k => sh_iconst (v := 2) dc_Mod_sync_83 (by decide) k) ?_
  refine sh_mp (fun w Z k => sh_isub dc_Mod_sync_84 k) ?_
  refine sh_mp (fun w Z k => sh_aload_n dc_Mod_sync_85 rfl rfl k) ?_
  refine sh_mget 19 dc_Mod_sync_86 (by decide) fl_Mod_63 rfl rfl rfl rfl ?_
  refine sh_mp (fun w Z k => sh_iload_n dc_Mod_sync_89 rfl rfl k) ?_
  refine sh_miald 19 (l := 8) (k := s) dc_Mod_sync_90 (by decide) rfl (by omega) (by decide) ?_
  refine sh_mti (show (sh_u2 I 0 0 0) 19 s = I 19 s from (sh_u2_row (by decide) _)) ?_
  refine sh_mp (fun w Z k => sh_icmp_ge (tgt := 110) dc_Mod_sync_91 (by decide) (fun _ => k) (fun z => absurd c6_91 z)) ?_
  refine sh_mp (fun w Z k => sh_iconst (v := (-1)) dc_Mod_sync_110 (by decide) k) ?_
  exact sh_me (fun w => sh_ireturn dc_Mod_sync_111 rfl rfl (by decide) (by decide))
theorem mx_Mod_sync_b_6 {mq : Nat} {A : Nat → Nat} {I : sh_II} {D : sh_DD} {s : Nat} {o : Int32} (hs : s < 8) (c0_19 : ¬ o < 0) (c1_19 : o < 9) (c2_37 : ¬ 0 ≤ (I 12 s)) : sh_mM mq A md_Mod_sync [.ref mq, .int (nI s), .int o] I D (some (.int 0)) (sh_u2 (sh_u2 I 0 0 0) 0 0 2) D := by
  refine sh_mp (fun w Z k => sh_aload_n dc_Mod_sync_0 rfl rfl k) ?_
  refine sh_mp (fun w Z k => sh_iconst (v := 0) dc_Mod_sync_1 (by decide) k) ?_
  refine sh_mput 0 dc_Mod_sync_2 (by decide) fl_Mod_78 rfl ?_
  refine sh_mp (fun w Z k => sh_aload_n dc_Mod_sync_5 rfl rfl k) ?_
  refine sh_mp (fun w Z k => sh_iload_n dc_Mod_sync_6 rfl rfl k) ?_
  refine sh_mp (fun w Z k => sh_bipush (v := 8) dc_Mod_sync_7 (by decide) k) ?_
  refine sh_mcall (As := [.int (nI s), .int 8]) (fun w hw => by obtain ⟨fs, hw⟩ := hw; exact sh_virt dc_Mod_sync_9 lm_Mod_out ln_Mod_82 wd_953 wd_29 rfl rfl (Nat.le_of_ble_eq_true rfl) hw rfl) (mx_Mod_out_2 (a := nI s) (b := 8) (nI_pos (by omega)) (sp_lt8 hs)) ⟨(Nat.le_of_ble_eq_true rfl), (Nat.le_of_ble_eq_true rfl), (Nat.le_of_ble_eq_true rfl), (Nat.le_of_ble_eq_true rfl)⟩ ?_
  show sh_mW _ _ _ (_, _, [.int 0]) (sh_u2 I 0 0 0) D _ _ _ _ _
  refine sh_mp (fun w Z k => sh_if_ne (tgt := 25) dc_Mod_sync_12 (by decide) (fun z => absurd (by decide) z) (fun _ => k)) ?_
  refine sh_mp (fun w Z k => sh_aload_n dc_Mod_sync_15 rfl rfl k) ?_
  refine sh_mp (fun w Z k => sh_iload_n dc_Mod_sync_16 rfl rfl k) ?_
  refine sh_mp (fun w Z k => sh_bipush (v := 9) dc_Mod_sync_17 (by decide) k) ?_
  refine sh_mcall (As := [.int o, .int 9]) (fun w hw => by obtain ⟨fs, hw⟩ := hw; exact sh_virt dc_Mod_sync_19 lm_Mod_out ln_Mod_82 wd_953 wd_29 rfl rfl (Nat.le_of_ble_eq_true rfl) hw rfl) (mx_Mod_out_2 (a := o) (b := 9) c0_19 c1_19) ⟨(Nat.le_of_ble_eq_true rfl), (Nat.le_of_ble_eq_true rfl), (Nat.le_of_ble_eq_true rfl), (Nat.le_of_ble_eq_true rfl)⟩ ?_
  show sh_mW _ _ _ (_, _, [.int 0]) (sh_u2 I 0 0 0) D _ _ _ _ _
  refine sh_mp (fun w Z k => sh_if_eq (tgt := 31) dc_Mod_sync_22 (by decide) (fun _ => k) (fun z => absurd (by decide) z)) ?_
  refine sh_mp (fun w Z k => sh_aload_n dc_Mod_sync_31 rfl rfl k) ?_
  refine sh_mget 12 dc_Mod_sync_32 (by decide) fl_Mod_42 rfl rfl rfl rfl ?_
  refine sh_mp (fun w Z k => sh_iload_n dc_Mod_sync_35 rfl rfl k) ?_
  refine sh_miald 12 (l := 8) (k := s) dc_Mod_sync_36 (by decide) rfl (by omega) (by decide) ?_
  refine sh_mti (show (sh_u2 I 0 0 0) 12 s = I 12 s from (sh_u2_row (by decide) _)) ?_
  refine sh_mp (fun w Z k => sh_if_ge (tgt := 46) dc_Mod_sync_37 (by decide) (fun z => absurd z c2_37) (fun _ => k)) ?_
  refine sh_mp (fun w Z k => sh_aload_n dc_Mod_sync_40 rfl rfl k) ?_
  refine sh_mp (fun w Z k => sh_iconst (v := 2) dc_Mod_sync_41 (by decide) k) ?_
  refine sh_mcall (As := [.int 2]) (fun w hw => by obtain ⟨fs, hw⟩ := hw; exact sh_virt dc_Mod_sync_42 lm_Mod_fail ln_Mod_86 wd_957 wd_30 rfl rfl (Nat.le_of_ble_eq_true rfl) hw rfl) (mx_Mod_fail_1 (c := 2)) ⟨(Nat.le_of_ble_eq_true rfl), (Nat.le_of_ble_eq_true rfl), (Nat.le_of_ble_eq_true rfl), (Nat.le_of_ble_eq_true rfl)⟩ ?_
  show sh_mW _ _ _ (_, _, [.int 0]) (sh_u2 (sh_u2 I 0 0 0) 0 0 2) D _ _ _ _ _
  exact sh_me (fun w => sh_ireturn dc_Mod_sync_45 rfl rfl (by decide) (by decide))
theorem mx_Mod_sync_b_7 {mq : Nat} {A : Nat → Nat} {I : sh_II} {D : sh_DD} {s : Nat} {o : Int32} (hs : s < 8) (c0_19 : ¬ o < 0) (c1_19 : ¬ o < 9) : sh_mM mq A md_Mod_sync [.ref mq, .int (nI s), .int o] I D (some (.int 0)) (sh_u2 (sh_u2 I 0 0 0) 0 0 1) D := by
  refine sh_mp (fun w Z k => sh_aload_n dc_Mod_sync_0 rfl rfl k) ?_
  refine sh_mp (fun w Z k => sh_iconst (v := 0) dc_Mod_sync_1 (by decide) k) ?_
  refine sh_mput 0 dc_Mod_sync_2 (by decide) fl_Mod_78 rfl ?_
  refine sh_mp (fun w Z k => sh_aload_n dc_Mod_sync_5 rfl rfl k) ?_
  refine sh_mp (fun w Z k => sh_iload_n dc_Mod_sync_6 rfl rfl k) ?_
  refine sh_mp (fun w Z k => sh_bipush (v := 8) dc_Mod_sync_7 (by decide) k) ?_
  refine sh_mcall (As := [.int (nI s), .int 8]) (fun w hw => by obtain ⟨fs, hw⟩ := hw; exact sh_virt dc_Mod_sync_9 lm_Mod_out ln_Mod_82 wd_953 wd_29 rfl rfl (Nat.le_of_ble_eq_true rfl) hw rfl) (mx_Mod_out_2 (a := nI s) (b := 8) (nI_pos (by omega)) (sp_lt8 hs)) ⟨(Nat.le_of_ble_eq_true rfl), (Nat.le_of_ble_eq_true rfl), (Nat.le_of_ble_eq_true rfl), (Nat.le_of_ble_eq_true rfl)⟩ ?_
  show sh_mW _ _ _ (_, _, [.int 0]) (sh_u2 I 0 0 0) D _ _ _ _ _
  refine sh_mp (fun w Z k => sh_if_ne (tgt := 25) dc_Mod_sync_12 (by decide) (fun z => absurd (by decide) z) (fun _ => k)) ?_
  refine sh_mp (fun w Z k => sh_aload_n dc_Mod_sync_15 rfl rfl k) ?_
  refine sh_mp (fun w Z k => sh_iload_n dc_Mod_sync_16 rfl rfl k) ?_
  refine sh_mp (fun w Z k => sh_bipush (v := 9) dc_Mod_sync_17 (by decide) k) ?_
  refine sh_mcall (As := [.int o, .int 9]) (fun w hw => by obtain ⟨fs, hw⟩ := hw; exact sh_virt dc_Mod_sync_19 lm_Mod_out ln_Mod_82 wd_953 wd_29 rfl rfl (Nat.le_of_ble_eq_true rfl) hw rfl) (mx_Mod_out_3 (a := o) (b := 9) c0_19 c1_19) ⟨(Nat.le_of_ble_eq_true rfl), (Nat.le_of_ble_eq_true rfl), (Nat.le_of_ble_eq_true rfl), (Nat.le_of_ble_eq_true rfl)⟩ ?_
  show sh_mW _ _ _ (_, _, [.int 1]) (sh_u2 I 0 0 0) D _ _ _ _ _
  refine sh_mp (fun w Z k => sh_if_eq (tgt := 31) dc_Mod_sync_22 (by decide) (fun z => absurd z (by decide)) (fun _ => k)) ?_
  refine sh_mp (fun w Z k => sh_aload_n dc_Mod_sync_25 rfl rfl k) ?_
  refine sh_mp (fun w Z k => sh_iconst (v := 1) dc_Mod_sync_26 (by decide) k) ?_
  refine sh_mcall (As := [.int 1]) (fun w hw => by obtain ⟨fs, hw⟩ := hw; exact sh_virt dc_Mod_sync_27 lm_Mod_fail ln_Mod_86 wd_957 wd_30 rfl rfl (Nat.le_of_ble_eq_true rfl) hw rfl) (mx_Mod_fail_1 (c := 1)) ⟨(Nat.le_of_ble_eq_true rfl), (Nat.le_of_ble_eq_true rfl), (Nat.le_of_ble_eq_true rfl), (Nat.le_of_ble_eq_true rfl)⟩ ?_
  show sh_mW _ _ _ (_, _, [.int 0]) (sh_u2 (sh_u2 I 0 0 0) 0 0 1) D _ _ _ _ _
  exact sh_me (fun w => sh_ireturn dc_Mod_sync_30 rfl rfl (by decide) (by decide))
theorem mx_Mod_waited_x_1 {mq : Nat} {A : Nat → Nat} {I : sh_II} {D : sh_DD} {x : Int32} (c0_9 : x < 0) : sh_mM mq A md_Mod_waited [.ref mq, .int x] I D (some (.double (FP.i2d 0))) (sh_u2 (sh_u2 I 0 0 0) 0 0 1) D := by
  refine sh_mp (fun w Z k => sh_aload_n dc_Mod_waited_0 rfl rfl k) ?_
  refine sh_mp (fun w Z k => sh_iconst (v := 0) dc_Mod_waited_1 (by decide) k) ?_
  refine sh_mput 0 dc_Mod_waited_2 (by decide) fl_Mod_78 rfl ?_
  refine sh_mp (fun w Z k => sh_aload_n dc_Mod_waited_5 rfl rfl k) ?_
  refine sh_mp (fun w Z k => sh_iload_n dc_Mod_waited_6 rfl rfl k) ?_
  refine sh_mp (fun w Z k => sh_bipush (v := 8) dc_Mod_waited_7 (by decide) k) ?_
  refine sh_mcall (As := [.int x, .int 8]) (fun w hw => by obtain ⟨fs, hw⟩ := hw; exact sh_virt dc_Mod_waited_9 lm_Mod_out ln_Mod_82 wd_953 wd_29 rfl rfl (Nat.le_of_ble_eq_true rfl) hw rfl) (mx_Mod_out_1 (a := x) (b := 8) c0_9) ⟨(Nat.le_of_ble_eq_true rfl), (Nat.le_of_ble_eq_true rfl), (Nat.le_of_ble_eq_true rfl), (Nat.le_of_ble_eq_true rfl)⟩ ?_
  show sh_mW _ _ _ (_, _, [.int 1]) (sh_u2 I 0 0 0) D _ _ _ _ _
  refine sh_mp (fun w Z k => sh_if_eq (tgt := 22) dc_Mod_waited_12 (by decide) (fun z => absurd z (by decide)) (fun _ => k)) ?_
  refine sh_mp (fun w Z k => sh_aload_n dc_Mod_waited_15 rfl rfl k) ?_
  refine sh_mp (fun w Z k => sh_iconst (v := 1) dc_Mod_waited_16 (by decide) k) ?_
  refine sh_mcall (As := [.int 1]) (fun w hw => by obtain ⟨fs, hw⟩ := hw; exact sh_virt dc_Mod_waited_17 lm_Mod_fail ln_Mod_86 wd_957 wd_30 rfl rfl (Nat.le_of_ble_eq_true rfl) hw rfl) (mx_Mod_fail_1 (c := 1)) ⟨(Nat.le_of_ble_eq_true rfl), (Nat.le_of_ble_eq_true rfl), (Nat.le_of_ble_eq_true rfl), (Nat.le_of_ble_eq_true rfl)⟩ ?_
  show sh_mW _ _ _ (_, _, [.int 0]) (sh_u2 (sh_u2 I 0 0 0) 0 0 1) D _ _ _ _ _
  refine sh_mp (fun w Z k => sh_i2d dc_Mod_waited_20 k) ?_
  exact sh_me (fun w => sh_dreturn dc_Mod_waited_21 rfl (by decide) (by decide))
theorem mx_Mod_waited_x_2 {mq : Nat} {A : Nat → Nat} {I : sh_II} {D : sh_DD} {x : Int32} (c0_9 : ¬ x < 0) (c1_9 : ¬ x < 8) : sh_mM mq A md_Mod_waited [.ref mq, .int x] I D (some (.double (FP.i2d 0))) (sh_u2 (sh_u2 I 0 0 0) 0 0 1) D := by
  refine sh_mp (fun w Z k => sh_aload_n dc_Mod_waited_0 rfl rfl k) ?_
  refine sh_mp (fun w Z k => sh_iconst (v := 0) dc_Mod_waited_1 (by decide) k) ?_
  refine sh_mput 0 dc_Mod_waited_2 (by decide) fl_Mod_78 rfl ?_
  refine sh_mp (fun w Z k => sh_aload_n dc_Mod_waited_5 rfl rfl k) ?_
  refine sh_mp (fun w Z k => sh_iload_n dc_Mod_waited_6 rfl rfl k) ?_
  refine sh_mp (fun w Z k => sh_bipush (v := 8) dc_Mod_waited_7 (by decide) k) ?_
  refine sh_mcall (As := [.int x, .int 8]) (fun w hw => by obtain ⟨fs, hw⟩ := hw; exact sh_virt dc_Mod_waited_9 lm_Mod_out ln_Mod_82 wd_953 wd_29 rfl rfl (Nat.le_of_ble_eq_true rfl) hw rfl) (mx_Mod_out_3 (a := x) (b := 8) c0_9 c1_9) ⟨(Nat.le_of_ble_eq_true rfl), (Nat.le_of_ble_eq_true rfl), (Nat.le_of_ble_eq_true rfl), (Nat.le_of_ble_eq_true rfl)⟩ ?_
  show sh_mW _ _ _ (_, _, [.int 1]) (sh_u2 I 0 0 0) D _ _ _ _ _
  refine sh_mp (fun w Z k => sh_if_eq (tgt := 22) dc_Mod_waited_12 (by decide) (fun z => absurd z (by decide)) (fun _ => k)) ?_
  refine sh_mp (fun w Z k => sh_aload_n dc_Mod_waited_15 rfl rfl k) ?_
  refine sh_mp (fun w Z k => sh_iconst (v := 1) dc_Mod_waited_16 (by decide) k) ?_
  refine sh_mcall (As := [.int 1]) (fun w hw => by obtain ⟨fs, hw⟩ := hw; exact sh_virt dc_Mod_waited_17 lm_Mod_fail ln_Mod_86 wd_957 wd_30 rfl rfl (Nat.le_of_ble_eq_true rfl) hw rfl) (mx_Mod_fail_1 (c := 1)) ⟨(Nat.le_of_ble_eq_true rfl), (Nat.le_of_ble_eq_true rfl), (Nat.le_of_ble_eq_true rfl), (Nat.le_of_ble_eq_true rfl)⟩ ?_
  show sh_mW _ _ _ (_, _, [.int 0]) (sh_u2 (sh_u2 I 0 0 0) 0 0 1) D _ _ _ _ _
  refine sh_mp (fun w Z k => sh_i2d dc_Mod_waited_20 k) ?_
  exact sh_me (fun w => sh_dreturn dc_Mod_waited_21 rfl (by decide) (by decide))
theorem mx_Mod_waited_1 {mq : Nat} {A : Nat → Nat} {I : sh_II} {D : sh_DD} {s : Nat} (hs : s < 8) (c0_28 : 0 ≤ (I 12 s)) (c1_44 : (I 21 s) = 0) : sh_mM mq A md_Mod_waited [.ref mq, .int (nI s)] I D (some (.double (FP.i2d 0))) (sh_u2 (sh_u2 I 0 0 0) 0 0 3) D := by
  refine sh_mp (fun w Z k => sh_aload_n dc_Mod_waited_0 rfl rfl k) ?_
  refine sh_mp (fun w Z k => sh_iconst (v := 0) dc_Mod_waited_1 (by decide) k) ?_
  refine sh_mput 0 dc_Mod_waited_2 (by decide) fl_Mod_78 rfl ?_
  refine sh_mp (fun w Z k => sh_aload_n dc_Mod_waited_5 rfl rfl k) ?_
  refine sh_mp (fun w Z k => sh_iload_n dc_Mod_waited_6 rfl rfl k) ?_
  refine sh_mp (fun w Z k => sh_bipush (v := 8) dc_Mod_waited_7 (by decide) k) ?_
  refine sh_mcall (As := [.int (nI s), .int 8]) (fun w hw => by obtain ⟨fs, hw⟩ := hw; exact sh_virt dc_Mod_waited_9 lm_Mod_out ln_Mod_82 wd_953 wd_29 rfl rfl (Nat.le_of_ble_eq_true rfl) hw rfl) (mx_Mod_out_2 (a := nI s) (b := 8) (nI_pos (by omega)) (sp_lt8 hs)) ⟨(Nat.le_of_ble_eq_true rfl), (Nat.le_of_ble_eq_true rfl), (Nat.le_of_ble_eq_true rfl), (Nat.le_of_ble_eq_true rfl)⟩ ?_
  show sh_mW _ _ _ (_, _, [.int 0]) (sh_u2 I 0 0 0) D _ _ _ _ _
  refine sh_mp (fun w Z k => sh_if_eq (tgt := 22) dc_Mod_waited_12 (by decide) (fun _ => k) (fun z => absurd (by decide) z)) ?_
  refine sh_mp (fun w Z k => sh_aload_n dc_Mod_waited_22 rfl rfl k) ?_
  refine sh_mget 12 dc_Mod_waited_23 (by decide) fl_Mod_42 rfl rfl rfl rfl ?_
  refine sh_mp (fun w Z k => sh_iload_n dc_Mod_waited_26 rfl rfl k) ?_
  refine sh_miald 12 (l := 8) (k := s) dc_Mod_waited_27 (by decide) rfl (by omega) (by decide) ?_
  refine sh_mti (show (sh_u2 I 0 0 0) 12 s = I 12 s from (sh_u2_row (by decide) _)) ?_
  refine sh_mp (fun w Z k => sh_if_ge (tgt := 38) dc_Mod_waited_28 (by decide) (fun _ => k) (fun z => absurd c0_28 z)) ?_
  refine sh_mp (fun w Z k => sh_aload_n dc_Mod_waited_38 rfl rfl k) ?_
  refine sh_mget 21 dc_Mod_waited_39 (by decide) fl_Mod_69 rfl rfl rfl rfl ?_
  refine sh_mp (fun w Z k => sh_iload_n dc_Mod_waited_42 rfl rfl k) ?_
  refine sh_miald 21 (l := 8) (k := s) dc_Mod_waited_43 (by decide) rfl (by omega) (by decide) ?_
  refine sh_mti (show (sh_u2 I 0 0 0) 21 s = I 21 s from (sh_u2_row (by decide) _)) ?_
  refine sh_mp (fun w Z k => sh_if_ne (tgt := 54) dc_Mod_waited_44 (by decide) (fun z => absurd c1_44 z) (fun _ => k)) ?_
  refine sh_mp (fun w Z k => sh_aload_n dc_Mod_waited_47 rfl rfl k) ?_
  refine sh_mp (fun w Z k => sh_iconst (v := 3) dc_Mod_waited_48 (by decide) k) ?_
  refine sh_mcall (As := [.int 3]) (fun w hw => by obtain ⟨fs, hw⟩ := hw; exact sh_virt dc_Mod_waited_49 lm_Mod_fail ln_Mod_86 wd_957 wd_30 rfl rfl (Nat.le_of_ble_eq_true rfl) hw rfl) (mx_Mod_fail_1 (c := 3)) ⟨(Nat.le_of_ble_eq_true rfl), (Nat.le_of_ble_eq_true rfl), (Nat.le_of_ble_eq_true rfl), (Nat.le_of_ble_eq_true rfl)⟩ ?_
  show sh_mW _ _ _ (_, _, [.int 0]) (sh_u2 (sh_u2 I 0 0 0) 0 0 3) D _ _ _ _ _
  refine sh_mp (fun w Z k => sh_i2d dc_Mod_waited_52 k) ?_
  exact sh_me (fun w => sh_dreturn dc_Mod_waited_53 rfl (by decide) (by decide))
theorem mx_Mod_waited_2 {mq : Nat} {A : Nat → Nat} {I : sh_II} {D : sh_DD} {s : Nat} (hs : s < 8) (c0_28 : 0 ≤ (I 12 s)) (c1_44 : ¬ (I 21 s) = 0) (v2_67 : vf_n64 (FP.ddiv (D 20 s) (FP.i2d (I 21 s)))) : sh_mM mq A md_Mod_waited [.ref mq, .int (nI s)] I D (some (.double (FP.ddiv (D 20 s) (FP.i2d (I 21 s))))) (sh_u2 I 0 0 0) D := by
  refine sh_mp (fun w Z k => sh_aload_n dc_Mod_waited_0 rfl rfl k) ?_
  refine sh_mp (fun w Z k => sh_iconst (v := 0) dc_Mod_waited_1 (by decide) k) ?_
  refine sh_mput 0 dc_Mod_waited_2 (by decide) fl_Mod_78 rfl ?_
  refine sh_mp (fun w Z k => sh_aload_n dc_Mod_waited_5 rfl rfl k) ?_
  refine sh_mp (fun w Z k => sh_iload_n dc_Mod_waited_6 rfl rfl k) ?_
  refine sh_mp (fun w Z k => sh_bipush (v := 8) dc_Mod_waited_7 (by decide) k) ?_
  refine sh_mcall (As := [.int (nI s), .int 8]) (fun w hw => by obtain ⟨fs, hw⟩ := hw; exact sh_virt dc_Mod_waited_9 lm_Mod_out ln_Mod_82 wd_953 wd_29 rfl rfl (Nat.le_of_ble_eq_true rfl) hw rfl) (mx_Mod_out_2 (a := nI s) (b := 8) (nI_pos (by omega)) (sp_lt8 hs)) ⟨(Nat.le_of_ble_eq_true rfl), (Nat.le_of_ble_eq_true rfl), (Nat.le_of_ble_eq_true rfl), (Nat.le_of_ble_eq_true rfl)⟩ ?_
  show sh_mW _ _ _ (_, _, [.int 0]) (sh_u2 I 0 0 0) D _ _ _ _ _
  refine sh_mp (fun w Z k => sh_if_eq (tgt := 22) dc_Mod_waited_12 (by decide) (fun _ => k) (fun z => absurd (by decide) z)) ?_
  refine sh_mp (fun w Z k => sh_aload_n dc_Mod_waited_22 rfl rfl k) ?_
  refine sh_mget 12 dc_Mod_waited_23 (by decide) fl_Mod_42 rfl rfl rfl rfl ?_
  refine sh_mp (fun w Z k => sh_iload_n dc_Mod_waited_26 rfl rfl k) ?_
  refine sh_miald 12 (l := 8) (k := s) dc_Mod_waited_27 (by decide) rfl (by omega) (by decide) ?_
  refine sh_mti (show (sh_u2 I 0 0 0) 12 s = I 12 s from (sh_u2_row (by decide) _)) ?_
  refine sh_mp (fun w Z k => sh_if_ge (tgt := 38) dc_Mod_waited_28 (by decide) (fun _ => k) (fun z => absurd c0_28 z)) ?_
  refine sh_mp (fun w Z k => sh_aload_n dc_Mod_waited_38 rfl rfl k) ?_
  refine sh_mget 21 dc_Mod_waited_39 (by decide) fl_Mod_69 rfl rfl rfl rfl ?_
  refine sh_mp (fun w Z k => sh_iload_n dc_Mod_waited_42 rfl rfl k) ?_
  refine sh_miald 21 (l := 8) (k := s) dc_Mod_waited_43 (by decide) rfl (by omega) (by decide) ?_
  refine sh_mti (show (sh_u2 I 0 0 0) 21 s = I 21 s from (sh_u2_row (by decide) _)) ?_
  refine sh_mp (fun w Z k => sh_if_ne (tgt := 54) dc_Mod_waited_44 (by decide) (fun _ => k) (fun z => absurd z c1_44)) ?_
  refine sh_mp (fun w Z k => sh_aload_n dc_Mod_waited_54 rfl rfl k) ?_
  refine sh_mget 20 dc_Mod_waited_55 (by decide) fl_Mod_66 rfl rfl rfl rfl ?_
  refine sh_mp (fun w Z k => sh_iload_n dc_Mod_waited_58 rfl rfl k) ?_
  refine sh_mdald 20 (l := 8) (k := s) dc_Mod_waited_59 (by decide) rfl (by omega) (by decide) ?_
  refine sh_mp (fun w Z k => sh_aload_n dc_Mod_waited_60 rfl rfl k) ?_
  refine sh_mget 21 dc_Mod_waited_61 (by decide) fl_Mod_69 rfl rfl rfl rfl ?_
  refine sh_mp (fun w Z k => sh_iload_n dc_Mod_waited_64 rfl rfl k) ?_
  refine sh_miald 21 (l := 8) (k := s) dc_Mod_waited_65 (by decide) rfl (by omega) (by decide) ?_
  refine sh_mti (show (sh_u2 I 0 0 0) 21 s = I 21 s from (sh_u2_row (by decide) _)) ?_
  refine sh_mp (fun w Z k => sh_i2d dc_Mod_waited_66 k) ?_
  refine sh_mp (fun w Z k => sh_ddiv dc_Mod_waited_67 v2_67 k) ?_
  exact sh_me (fun w => sh_dreturn dc_Mod_waited_68 rfl (by decide) (by decide))
theorem mx_Mod_waited_3 {mq : Nat} {A : Nat → Nat} {I : sh_II} {D : sh_DD} {s : Nat} (hs : s < 8) (c0_28 : ¬ 0 ≤ (I 12 s)) : sh_mM mq A md_Mod_waited [.ref mq, .int (nI s)] I D (some (.double (FP.i2d 0))) (sh_u2 (sh_u2 I 0 0 0) 0 0 2) D := by
  refine sh_mp (fun w Z k => sh_aload_n dc_Mod_waited_0 rfl rfl k) ?_
  refine sh_mp (fun w Z k => sh_iconst (v := 0) dc_Mod_waited_1 (by decide) k) ?_
  refine sh_mput 0 dc_Mod_waited_2 (by decide) fl_Mod_78 rfl ?_
  refine sh_mp (fun w Z k => sh_aload_n dc_Mod_waited_5 rfl rfl k) ?_
  refine sh_mp (fun w Z k => sh_iload_n dc_Mod_waited_6 rfl rfl k) ?_
  refine sh_mp (fun w Z k => sh_bipush (v := 8) dc_Mod_waited_7 (by decide) k) ?_
  refine sh_mcall (As := [.int (nI s), .int 8]) (fun w hw => by obtain ⟨fs, hw⟩ := hw; exact sh_virt dc_Mod_waited_9 lm_Mod_out ln_Mod_82 wd_953 wd_29 rfl rfl (Nat.le_of_ble_eq_true rfl) hw rfl) (mx_Mod_out_2 (a := nI s) (b := 8) (nI_pos (by omega)) (sp_lt8 hs)) ⟨(Nat.le_of_ble_eq_true rfl), (Nat.le_of_ble_eq_true rfl), (Nat.le_of_ble_eq_true rfl), (Nat.le_of_ble_eq_true rfl)⟩ ?_
  show sh_mW _ _ _ (_, _, [.int 0]) (sh_u2 I 0 0 0) D _ _ _ _ _
  refine sh_mp (fun w Z k => sh_if_eq (tgt := 22) dc_Mod_waited_12 (by decide) (fun _ => k) (fun z => absurd (by decide) z)) ?_
  refine sh_mp (fun w Z k => sh_aload_n dc_Mod_waited_22 rfl rfl k) ?_
  refine sh_mget 12 dc_Mod_waited_23 (by decide) fl_Mod_42 rfl rfl rfl rfl ?_
  refine sh_mp (fun w Z k => sh_iload_n dc_Mod_waited_26 rfl rfl k) ?_
  refine sh_miald 12 (l := 8) (k := s) dc_Mod_waited_27 (by decide) rfl (by omega) (by decide) ?_
  refine sh_mti (show (sh_u2 I 0 0 0) 12 s = I 12 s from (sh_u2_row (by decide) _)) ?_
  refine sh_mp (fun w Z k => sh_if_ge (tgt := 38) dc_Mod_waited_28 (by decide) (fun z => absurd z c0_28) (fun _ => k)) ?_
  refine sh_mp (fun w Z k => sh_aload_n dc_Mod_waited_31 rfl rfl k) ?_
  refine sh_mp (fun w Z k => sh_iconst (v := 2) dc_Mod_waited_32 (by decide) k) ?_
  refine sh_mcall (As := [.int 2]) (fun w hw => by obtain ⟨fs, hw⟩ := hw; exact sh_virt dc_Mod_waited_33 lm_Mod_fail ln_Mod_86 wd_957 wd_30 rfl rfl (Nat.le_of_ble_eq_true rfl) hw rfl) (mx_Mod_fail_1 (c := 2)) ⟨(Nat.le_of_ble_eq_true rfl), (Nat.le_of_ble_eq_true rfl), (Nat.le_of_ble_eq_true rfl), (Nat.le_of_ble_eq_true rfl)⟩ ?_
  show sh_mW _ _ _ (_, _, [.int 0]) (sh_u2 (sh_u2 I 0 0 0) 0 0 2) D _ _ _ _ _
  refine sh_mp (fun w Z k => sh_i2d dc_Mod_waited_36 k) ?_
  exact sh_me (fun w => sh_dreturn dc_Mod_waited_37 rfl (by decide) (by decide))
theorem mx_Mod_interrupt_x_1 {mq : Nat} {A : Nat → Nat} {I : sh_II} {D : sh_DD} {x : Int32} (c0_9 : x < 0) : sh_mM mq A md_Mod_interrupt [.ref mq, .int x] I D (some (.int 0)) (sh_u2 (sh_u2 I 0 0 0) 0 0 1) D := by
  refine sh_mp (fun w Z k => sh_aload_n dc_Mod_interrupt_0 rfl rfl k) ?_
  refine sh_mp (fun w Z k => sh_iconst (v := 0) dc_Mod_interrupt_1 (by decide) k) ?_
  refine sh_mput 0 dc_Mod_interrupt_2 (by decide) fl_Mod_78 rfl ?_
  refine sh_mp (fun w Z k => sh_aload_n dc_Mod_interrupt_5 rfl rfl k) ?_
  refine sh_mp (fun w Z k => sh_iload_n dc_Mod_interrupt_6 rfl rfl k) ?_
  refine sh_mp (fun w Z k => sh_bipush (v := 6) dc_Mod_interrupt_7 (by decide) k) ?_
  refine sh_mcall (As := [.int x, .int 6]) (fun w hw => by obtain ⟨fs, hw⟩ := hw; exact sh_virt dc_Mod_interrupt_9 lm_Mod_out ln_Mod_82 wd_953 wd_29 rfl rfl (Nat.le_of_ble_eq_true rfl) hw rfl) (mx_Mod_out_1 (a := x) (b := 6) c0_9) ⟨(Nat.le_of_ble_eq_true rfl), (Nat.le_of_ble_eq_true rfl), (Nat.le_of_ble_eq_true rfl), (Nat.le_of_ble_eq_true rfl)⟩ ?_
  show sh_mW _ _ _ (_, _, [.int 1]) (sh_u2 I 0 0 0) D _ _ _ _ _
  refine sh_mp (fun w Z k => sh_if_eq (tgt := 21) dc_Mod_interrupt_12 (by decide) (fun z => absurd z (by decide)) (fun _ => k)) ?_
  refine sh_mp (fun w Z k => sh_aload_n dc_Mod_interrupt_15 rfl rfl k) ?_
  refine sh_mp (fun w Z k => sh_iconst (v := 1) dc_Mod_interrupt_16 (by decide) k) ?_
  refine sh_mcall (As := [.int 1]) (fun w hw => by obtain ⟨fs, hw⟩ := hw; exact sh_virt dc_Mod_interrupt_17 lm_Mod_fail ln_Mod_86 wd_957 wd_30 rfl rfl (Nat.le_of_ble_eq_true rfl) hw rfl) (mx_Mod_fail_1 (c := 1)) ⟨(Nat.le_of_ble_eq_true rfl), (Nat.le_of_ble_eq_true rfl), (Nat.le_of_ble_eq_true rfl), (Nat.le_of_ble_eq_true rfl)⟩ ?_
  show sh_mW _ _ _ (_, _, [.int 0]) (sh_u2 (sh_u2 I 0 0 0) 0 0 1) D _ _ _ _ _
  exact sh_me (fun w => sh_ireturn dc_Mod_interrupt_20 rfl rfl (by decide) (by decide))
theorem mx_Mod_interrupt_x_2 {mq : Nat} {A : Nat → Nat} {I : sh_II} {D : sh_DD} {x : Int32} (c0_9 : ¬ x < 0) (c1_9 : ¬ x < 6) : sh_mM mq A md_Mod_interrupt [.ref mq, .int x] I D (some (.int 0)) (sh_u2 (sh_u2 I 0 0 0) 0 0 1) D := by
  refine sh_mp (fun w Z k => sh_aload_n dc_Mod_interrupt_0 rfl rfl k) ?_
  refine sh_mp (fun w Z k => sh_iconst (v := 0) dc_Mod_interrupt_1 (by decide) k) ?_
  refine sh_mput 0 dc_Mod_interrupt_2 (by decide) fl_Mod_78 rfl ?_
  refine sh_mp (fun w Z k => sh_aload_n dc_Mod_interrupt_5 rfl rfl k) ?_
  refine sh_mp (fun w Z k => sh_iload_n dc_Mod_interrupt_6 rfl rfl k) ?_
  refine sh_mp (fun w Z k => sh_bipush (v := 6) dc_Mod_interrupt_7 (by decide) k) ?_
  refine sh_mcall (As := [.int x, .int 6]) (fun w hw => by obtain ⟨fs, hw⟩ := hw; exact sh_virt dc_Mod_interrupt_9 lm_Mod_out ln_Mod_82 wd_953 wd_29 rfl rfl (Nat.le_of_ble_eq_true rfl) hw rfl) (mx_Mod_out_3 (a := x) (b := 6) c0_9 c1_9) ⟨(Nat.le_of_ble_eq_true rfl), (Nat.le_of_ble_eq_true rfl), (Nat.le_of_ble_eq_true rfl), (Nat.le_of_ble_eq_true rfl)⟩ ?_
  show sh_mW _ _ _ (_, _, [.int 1]) (sh_u2 I 0 0 0) D _ _ _ _ _
  refine sh_mp (fun w Z k => sh_if_eq (tgt := 21) dc_Mod_interrupt_12 (by decide) (fun z => absurd z (by decide)) (fun _ => k)) ?_
  refine sh_mp (fun w Z k => sh_aload_n dc_Mod_interrupt_15 rfl rfl k) ?_
  refine sh_mp (fun w Z k => sh_iconst (v := 1) dc_Mod_interrupt_16 (by decide) k) ?_
  refine sh_mcall (As := [.int 1]) (fun w hw => by obtain ⟨fs, hw⟩ := hw; exact sh_virt dc_Mod_interrupt_17 lm_Mod_fail ln_Mod_86 wd_957 wd_30 rfl rfl (Nat.le_of_ble_eq_true rfl) hw rfl) (mx_Mod_fail_1 (c := 1)) ⟨(Nat.le_of_ble_eq_true rfl), (Nat.le_of_ble_eq_true rfl), (Nat.le_of_ble_eq_true rfl), (Nat.le_of_ble_eq_true rfl)⟩ ?_
  show sh_mW _ _ _ (_, _, [.int 0]) (sh_u2 (sh_u2 I 0 0 0) 0 0 1) D _ _ _ _ _
  exact sh_me (fun w => sh_ireturn dc_Mod_interrupt_20 rfl rfl (by decide) (by decide))
theorem mx_Mod_interrupt_r_1 {mq : Nat} {A : Nat → Nat} {I : sh_II} {D : sh_DD} {t : Nat} (ht : t < 6) (hb0 : (I 1 t) = 0) : sh_mM mq A md_Mod_interrupt [.ref mq, .int (nI t)] I D (some (.int (I 4 t))) (sh_u2 (sh_u2 I 0 0 0) 2 t 1) D := by
  refine sh_mp (fun w Z k => sh_aload_n dc_Mod_interrupt_0 rfl rfl k) ?_
  refine sh_mp (fun w Z k => sh_iconst (v := 0) dc_Mod_interrupt_1 (by decide) k) ?_
  refine sh_mput 0 dc_Mod_interrupt_2 (by decide) fl_Mod_78 rfl ?_
  refine sh_mp (fun w Z k => sh_aload_n dc_Mod_interrupt_5 rfl rfl k) ?_
  refine sh_mp (fun w Z k => sh_iload_n dc_Mod_interrupt_6 rfl rfl k) ?_
  refine sh_mp (fun w Z k => sh_bipush (v := 6) dc_Mod_interrupt_7 (by decide) k) ?_
  refine sh_mcall (As := [.int (nI t), .int 6]) (fun w hw => by obtain ⟨fs, hw⟩ := hw; exact sh_virt dc_Mod_interrupt_9 lm_Mod_out ln_Mod_82 wd_953 wd_29 rfl rfl (Nat.le_of_ble_eq_true rfl) hw rfl) (mx_Mod_out_2 (a := nI t) (b := 6) (nI_pos (by omega)) (sp_lt6 ht)) ⟨(Nat.le_of_ble_eq_true rfl), (Nat.le_of_ble_eq_true rfl), (Nat.le_of_ble_eq_true rfl), (Nat.le_of_ble_eq_true rfl)⟩ ?_
  show sh_mW _ _ _ (_, _, [.int 0]) (sh_u2 I 0 0 0) D _ _ _ _ _
  refine sh_mp (fun w Z k => sh_if_eq (tgt := 21) dc_Mod_interrupt_12 (by decide) (fun _ => k) (fun z => absurd (by decide) z)) ?_
  refine sh_mp (fun w Z k => sh_aload_n dc_Mod_interrupt_21 rfl rfl k) ?_
  refine sh_mget 5 dc_Mod_interrupt_22 (by decide) fl_Mod_24 rfl rfl rfl rfl ?_
  refine sh_mp (fun w Z k => sh_iload_n dc_Mod_interrupt_25 rfl rfl k) ?_
  refine sh_miald 5 (l := 6) (k := t) dc_Mod_interrupt_26 (by decide) rfl (by omega) (by decide) ?_
  refine sh_mti (show (sh_u2 I 0 0 0) 5 t = I 5 t from (sh_u2_row (by decide) _)) ?_
  refine sh_mp (fun w Z k => sh_istore_n dc_Mod_interrupt_27 rfl (by decide) k) ?_
  refine sh_mp (fun w Z k => sh_aload_n dc_Mod_interrupt_28 rfl rfl k) ?_
  refine sh_mget 1 dc_Mod_interrupt_29 (by decide) fl_Mod_7 rfl rfl rfl rfl ?_
  refine sh_mp (fun w Z k => sh_iload_n dc_Mod_interrupt_32 rfl rfl k) ?_
  refine sh_mzald 1 (l := 6) (k := t) dc_Mod_interrupt_33 (by decide) rfl (by omega) (by decide) ?_
  refine sh_mti (show (sh_u2 I 0 0 0) 1 t = I 1 t from (sh_u2_row (by decide) _)) ?_
  refine sh_mp (fun w Z k => sh_if_eq (tgt := 57) dc_Mod_interrupt_34 (by decide) (fun _ => k) (fun z => absurd hb0 z)) ?_
  refine sh_mp (fun w Z k => sh_aload_n dc_Mod_interrupt_57 rfl rfl k) ?_
  refine sh_mget 2 dc_Mod_interrupt_58 (by decide) fl_Mod_13 rfl rfl rfl rfl ?_
  refine sh_mp (fun w Z k => sh_iload_n dc_Mod_interrupt_61 rfl rfl k) ?_
  refine sh_mp (fun w Z k => sh_iconst (v := 1) dc_Mod_interrupt_62 (by decide) k) ?_
  refine sh_mzast 2 (l := 6) (k := t) dc_Mod_interrupt_63 (by decide) rfl (by omega) (by decide) (by decide) ?_
  refine sh_mp (fun w Z k => sh_goto_ (tgt := 113) dc_Mod_interrupt_64 (by decide) k) ?_
  refine sh_mp (fun w Z k => sh_aload_n dc_Mod_interrupt_113 rfl rfl k) ?_
  refine sh_mget 4 dc_Mod_interrupt_114 (by decide) fl_Mod_20 rfl rfl rfl rfl ?_
  refine sh_mp (fun w Z k => sh_iload_n dc_Mod_interrupt_117 rfl rfl k) ?_
  refine sh_miald 4 (l := 6) (k := t) dc_Mod_interrupt_118 (by decide) rfl (by omega) (by decide) ?_
  refine sh_mti (show (sh_u2 (sh_u2 I 0 0 0) 2 t 1) 4 t = I 4 t from (Eq.trans (sh_u2_row (by decide) _) (sh_u2_row (by decide) _))) ?_
  exact sh_me (fun w => sh_ireturn dc_Mod_interrupt_119 rfl rfl (by decide) (by decide))
theorem mx_Mod_interrupt_b_1 {mq : Nat} {A : Nat → Nat} {I : sh_II} {D : sh_DD} {t : Nat} {s : Nat} {I7_82 : sh_II} {D7_82 : sh_DD} (ht : t < 6) (hs : s < 8) (ep : I 5 t = nI s) (hb1 : ¬ (I 1 t) = 0) (c0_45 : (I 12 s) = 6) (v1_82 : sp_MQ (sh_u2 I 0 0 0) D t s 3 I7_82 D7_82) : sh_mM mq A md_Mod_interrupt [.ref mq, .int (nI t)] I D (some (.int (I7_82 4 t))) I7_82 D7_82 := by
  refine sh_mp (fun w Z k => sh_aload_n dc_Mod_interrupt_0 rfl rfl k) ?_
  refine sh_mp (fun w Z k => sh_iconst (v := 0) dc_Mod_interrupt_1 (by decide) k) ?_
  refine sh_mput 0 dc_Mod_interrupt_2 (by decide) fl_Mod_78 rfl ?_
  refine sh_mp (fun w Z k => sh_aload_n dc_Mod_interrupt_5 rfl rfl k) ?_
  refine sh_mp (fun w Z k => sh_iload_n dc_Mod_interrupt_6 rfl rfl k) ?_
  refine sh_mp (fun w Z k => sh_bipush (v := 6) dc_Mod_interrupt_7 (by decide) k) ?_
  refine sh_mcall (As := [.int (nI t), .int 6]) (fun w hw => by obtain ⟨fs, hw⟩ := hw; exact sh_virt dc_Mod_interrupt_9 lm_Mod_out ln_Mod_82 wd_953 wd_29 rfl rfl (Nat.le_of_ble_eq_true rfl) hw rfl) (mx_Mod_out_2 (a := nI t) (b := 6) (nI_pos (by omega)) (sp_lt6 ht)) ⟨(Nat.le_of_ble_eq_true rfl), (Nat.le_of_ble_eq_true rfl), (Nat.le_of_ble_eq_true rfl), (Nat.le_of_ble_eq_true rfl)⟩ ?_
  show sh_mW _ _ _ (_, _, [.int 0]) (sh_u2 I 0 0 0) D _ _ _ _ _
  refine sh_mp (fun w Z k => sh_if_eq (tgt := 21) dc_Mod_interrupt_12 (by decide) (fun _ => k) (fun z => absurd (by decide) z)) ?_
  refine sh_mp (fun w Z k => sh_aload_n dc_Mod_interrupt_21 rfl rfl k) ?_
  refine sh_mget 5 dc_Mod_interrupt_22 (by decide) fl_Mod_24 rfl rfl rfl rfl ?_
  refine sh_mp (fun w Z k => sh_iload_n dc_Mod_interrupt_25 rfl rfl k) ?_
  refine sh_miald 5 (l := 6) (k := t) dc_Mod_interrupt_26 (by decide) rfl (by omega) (by decide) ?_
  refine sh_mti (show (sh_u2 I 0 0 0) 5 t = I 5 t from (sh_u2_row (by decide) _)) ?_
  refine sh_mp (fun w Z k => sh_istore_n dc_Mod_interrupt_27 rfl (by decide) k) ?_
  refine sh_mp (fun w Z k => sh_aload_n dc_Mod_interrupt_28 rfl rfl k) ?_
  refine sh_mget 1 dc_Mod_interrupt_29 (by decide) fl_Mod_7 rfl rfl rfl rfl ?_
  refine sh_mp (fun w Z k => sh_iload_n dc_Mod_interrupt_32 rfl rfl k) ?_
  refine sh_mzald 1 (l := 6) (k := t) dc_Mod_interrupt_33 (by decide) rfl (by omega) (by decide) ?_
  refine sh_mti (show (sh_u2 I 0 0 0) 1 t = I 1 t from (sh_u2_row (by decide) _)) ?_
  refine sh_mp (fun w Z k => sh_if_eq (tgt := 57) dc_Mod_interrupt_34 (by decide) (fun z => absurd z hb1) (fun _ => k)) ?_
  refine sh_mp (fun w Z k => sh_aload_n dc_Mod_interrupt_37 rfl rfl k) ?_
  refine sh_mget 12 dc_Mod_interrupt_38 (by decide) fl_Mod_42 rfl rfl rfl rfl ?_
  refine sh_mp (fun w Z k => sh_iload_n dc_Mod_interrupt_41 rfl rfl k) ?_
  refine sh_miald 12 (l := 8) (k := s) dc_Mod_interrupt_42 (by decide) ep (by omega) (by decide) ?_
  refine sh_mti (show (sh_u2 I 0 0 0) 12 s = I 12 s from (sh_u2_row (by decide) _)) ?_
  refine sh_mp (fun w Z k => sh_bipush (v := 6) dc_Mod_interrupt_43 (by decide) k) ?_
  refine sh_mp (fun w Z k => sh_icmp_eq (tgt := 67) dc_Mod_interrupt_45 (by decide) (fun _ => k) (fun z => absurd c0_45 z)) ?_
  refine sh_mp (fun w Z k => sh_aload_n dc_Mod_interrupt_67 rfl rfl k) ?_
  refine sh_mget 12 dc_Mod_interrupt_68 (by decide) fl_Mod_42 rfl rfl rfl rfl ?_
  refine sh_mp (fun w Z k => sh_iload_n dc_Mod_interrupt_71 rfl rfl k) ?_
  refine sh_miald 12 (l := 8) (k := s) dc_Mod_interrupt_72 (by decide) ep (by omega) (by decide) ?_
  refine sh_mti (show (sh_u2 I 0 0 0) 12 s = I 12 s from (sh_u2_row (by decide) _)) ?_
  refine sh_mp (fun w Z k => sh_bipush (v := 6) dc_Mod_interrupt_73 (by decide) k) ?_
  refine sh_mp (fun w Z k => sh_icmp_ne (tgt := 88) dc_Mod_interrupt_75 (by decide) (fun z => absurd c0_45 z) (fun _ => k)) ?_
  refine sh_mp (fun w Z k => sh_aload_n dc_Mod_interrupt_78 rfl rfl k) ?_
  refine sh_mp (fun w Z k => sh_iload_n dc_Mod_interrupt_79 rfl rfl k) ?_
  refine sh_mp (fun w Z k => sh_iload_n dc_Mod_interrupt_80 rfl rfl k) ?_
  refine sh_mp (fun w Z k => sh_iconst (v := 3) dc_Mod_interrupt_81 (by decide) k) ?_
  refine sh_mstk (show ([.int 3, .int (I 5 t), .int (nI t), .ref mq] : List Value) = [.int 3, .int (nI s), .int (nI t), .ref mq] from by rw [ep]) ?_
  refine sh_mcall (As := [.int (nI t), .int (nI s), .int 3]) (fun w hw => by obtain ⟨fs, hw⟩ := hw; exact sh_virt dc_Mod_interrupt_82 lm_Mod_queue ln_Mod_158 wd_1040 wd_46 rfl rfl (Nat.le_of_ble_eq_true rfl) hw rfl) (ml_queue (t := t) (s := s) (x := 3) (by omega) (by omega) v1_82) ⟨(Nat.le_of_ble_eq_true rfl), (Nat.le_of_ble_eq_true rfl), (Nat.le_of_ble_eq_true rfl), (Nat.le_of_ble_eq_true rfl)⟩ ?_
  show sh_mW _ _ _ (_, _, []) I7_82 D7_82 _ _ _ _ _
  refine sh_mp (fun w Z k => sh_goto_ (tgt := 113) dc_Mod_interrupt_85 (by decide) k) ?_
  refine sh_mp (fun w Z k => sh_aload_n dc_Mod_interrupt_113 rfl rfl k) ?_
  refine sh_mget 4 dc_Mod_interrupt_114 (by decide) fl_Mod_20 rfl rfl rfl rfl ?_
  refine sh_mp (fun w Z k => sh_iload_n dc_Mod_interrupt_117 rfl rfl k) ?_
  refine sh_miald 4 (l := 6) (k := t) dc_Mod_interrupt_118 (by decide) rfl (by omega) (by decide) ?_
  exact sh_me (fun w => sh_ireturn dc_Mod_interrupt_119 rfl rfl (by decide) (by decide))
theorem mx_Mod_interrupt_b_2 {mq : Nat} {A : Nat → Nat} {I : sh_II} {D : sh_DD} {t : Nat} {s : Nat} {l91 : List Nat} {l110 : List Nat} (ht : t < 6) (hs : s < 8) (ep : I 5 t = nI s) (hb1 : ¬ (I 1 t) = 0) (c0_45 : ¬ (I 12 s) = 6) (c1_54 : (I 9 t) ≤ 0) (v2_91 : cw_row (sh_u2 I 0 0 0) s l91) (v3_91 : l91.Nodup) (v4_91 : t ∈ l91) (v5_110 : cw_row (sh_u2 (sh_u2 (sp_mrem (sh_u2 I 0 0 0) s t l91) 1 t 0) 4 t 3) s l110) (v6_110 : sp_mvok s l110.length (sh_u2 (sh_u2 (sp_mrem (sh_u2 I 0 0 0) s t l91) 1 t 0) 4 t 3) D l110) : sh_mM mq A md_Mod_interrupt [.ref mq, .int (nI t)] I D (some (.int ((sp_mserve s l110.length (sh_u2 (sh_u2 (sp_mrem (sh_u2 I 0 0 0) s t l91) 1 t 0) 4 t 3) D l110).1 4 t))) (sp_mserve s l110.length (sh_u2 (sh_u2 (sp_mrem (sh_u2 I 0 0 0) s t l91) 1 t 0) 4 t 3) D l110).1 (sp_mserve s l110.length (sh_u2 (sh_u2 (sp_mrem (sh_u2 I 0 0 0) s t l91) 1 t 0) 4 t 3) D l110).2 := by
  refine sh_mp (fun w Z k => sh_aload_n dc_Mod_interrupt_0 rfl rfl k) ?_
  refine sh_mp (fun w Z k => sh_iconst (v := 0) dc_Mod_interrupt_1 (by decide) k) ?_
  refine sh_mput 0 dc_Mod_interrupt_2 (by decide) fl_Mod_78 rfl ?_
  refine sh_mp (fun w Z k => sh_aload_n dc_Mod_interrupt_5 rfl rfl k) ?_
  refine sh_mp (fun w Z k => sh_iload_n dc_Mod_interrupt_6 rfl rfl k) ?_
  refine sh_mp (fun w Z k => sh_bipush (v := 6) dc_Mod_interrupt_7 (by decide) k) ?_
  refine sh_mcall (As := [.int (nI t), .int 6]) (fun w hw => by obtain ⟨fs, hw⟩ := hw; exact sh_virt dc_Mod_interrupt_9 lm_Mod_out ln_Mod_82 wd_953 wd_29 rfl rfl (Nat.le_of_ble_eq_true rfl) hw rfl) (mx_Mod_out_2 (a := nI t) (b := 6) (nI_pos (by omega)) (sp_lt6 ht)) ⟨(Nat.le_of_ble_eq_true rfl), (Nat.le_of_ble_eq_true rfl), (Nat.le_of_ble_eq_true rfl), (Nat.le_of_ble_eq_true rfl)⟩ ?_
  show sh_mW _ _ _ (_, _, [.int 0]) (sh_u2 I 0 0 0) D _ _ _ _ _
  refine sh_mp (fun w Z k => sh_if_eq (tgt := 21) dc_Mod_interrupt_12 (by decide) (fun _ => k) (fun z => absurd (by decide) z)) ?_
  refine sh_mp (fun w Z k => sh_aload_n dc_Mod_interrupt_21 rfl rfl k) ?_
  refine sh_mget 5 dc_Mod_interrupt_22 (by decide) fl_Mod_24 rfl rfl rfl rfl ?_
  refine sh_mp (fun w Z k => sh_iload_n dc_Mod_interrupt_25 rfl rfl k) ?_
  refine sh_miald 5 (l := 6) (k := t) dc_Mod_interrupt_26 (by decide) rfl (by omega) (by decide) ?_
  refine sh_mti (show (sh_u2 I 0 0 0) 5 t = I 5 t from (sh_u2_row (by decide) _)) ?_
  refine sh_mp (fun w Z k => sh_istore_n dc_Mod_interrupt_27 rfl (by decide) k) ?_
  refine sh_mp (fun w Z k => sh_aload_n dc_Mod_interrupt_28 rfl rfl k) ?_
  refine sh_mget 1 dc_Mod_interrupt_29 (by decide) fl_Mod_7 rfl rfl rfl rfl ?_
  refine sh_mp (fun w Z k => sh_iload_n dc_Mod_interrupt_32 rfl rfl k) ?_
  refine sh_mzald 1 (l := 6) (k := t) dc_Mod_interrupt_33 (by decide) rfl (by omega) (by decide) ?_
  refine sh_mti (show (sh_u2 I 0 0 0) 1 t = I 1 t from (sh_u2_row (by decide) _)) ?_
  refine sh_mp (fun w Z k => sh_if_eq (tgt := 57) dc_Mod_interrupt_34 (by decide) (fun z => absurd z hb1) (fun _ => k)) ?_
  refine sh_mp (fun w Z k => sh_aload_n dc_Mod_interrupt_37 rfl rfl k) ?_
  refine sh_mget 12 dc_Mod_interrupt_38 (by decide) fl_Mod_42 rfl rfl rfl rfl ?_
  refine sh_mp (fun w Z k => sh_iload_n dc_Mod_interrupt_41 rfl rfl k) ?_
  refine sh_miald 12 (l := 8) (k := s) dc_Mod_interrupt_42 (by decide) ep (by omega) (by decide) ?_
  refine sh_mti (show (sh_u2 I 0 0 0) 12 s = I 12 s from (sh_u2_row (by decide) _)) ?_
  refine sh_mp (fun w Z k => sh_bipush (v := 6) dc_Mod_interrupt_43 (by decide) k) ?_
  refine sh_mp (fun w Z k => sh_icmp_eq (tgt := 67) dc_Mod_interrupt_45 (by decide) (fun z => absurd z c0_45) (fun _ => k)) ?_
  refine sh_mp (fun w Z k => sh_aload_n dc_Mod_interrupt_48 rfl rfl k) ?_
  refine sh_mget 9 dc_Mod_interrupt_49 (by decide) fl_Mod_36 rfl rfl rfl rfl ?_
  refine sh_mp (fun w Z k => sh_iload_n dc_Mod_interrupt_52 rfl rfl k) ?_
  refine sh_miald 9 (l := 6) (k := t) dc_Mod_interrupt_53 (by decide) rfl (by omega) (by decide) ?_
  refine sh_mti (show (sh_u2 I 0 0 0) 9 t = I 9 t from (sh_u2_row (by decide) _)) ?_
  refine sh_mp (fun w Z k => sh_if_le (tgt := 67) dc_Mod_interrupt_54 (by decide) (fun _ => k) (fun z => absurd c1_54 z)) ?_
  refine sh_mp (fun w Z k => sh_aload_n dc_Mod_interrupt_67 rfl rfl k) ?_
  refine sh_mget 12 dc_Mod_interrupt_68 (by decide) fl_Mod_42 rfl rfl rfl rfl ?_
  refine sh_mp (fun w Z k => sh_iload_n dc_Mod_interrupt_71 rfl rfl k) ?_
  refine sh_miald 12 (l := 8) (k := s) dc_Mod_interrupt_72 (by decide) ep (by omega) (by decide) ?_
  refine sh_mti (show (sh_u2 I 0 0 0) 12 s = I 12 s from (sh_u2_row (by decide) _)) ?_
  refine sh_mp (fun w Z k => sh_bipush (v := 6) dc_Mod_interrupt_73 (by decide) k) ?_
  refine sh_mp (fun w Z k => sh_icmp_ne (tgt := 88) dc_Mod_interrupt_75 (by decide) (fun _ => k) (fun z => absurd z c0_45)) ?_
  refine sh_mp (fun w Z k => sh_aload_n dc_Mod_interrupt_88 rfl rfl k) ?_
  refine sh_mp (fun w Z k => sh_iload_n dc_Mod_interrupt_89 rfl rfl k) ?_
  refine sh_mp (fun w Z k => sh_iload_n dc_Mod_interrupt_90 rfl rfl k) ?_
  refine sh_mstk (show ([.int (I 5 t), .int (nI t), .ref mq] : List Value) = [.int (nI s), .int (nI t), .ref mq] from by rw [ep]) ?_
  refine sh_mcall (As := [.int (nI t), .int (nI s)]) (fun w hw => by obtain ⟨fs, hw⟩ := hw; exact sh_virt dc_Mod_interrupt_91 lm_Mod_remove ln_Mod_105 wd_1024 wd_43 rfl rfl (Nat.le_of_ble_eq_true rfl) hw rfl) (ml_remove (t := t) (s := s) (l := l91) (by omega) (by omega) v2_91 v3_91 v4_91) ⟨(Nat.le_of_ble_eq_true rfl), (Nat.le_of_ble_eq_true rfl), (Nat.le_of_ble_eq_true rfl), (Nat.le_of_ble_eq_true rfl)⟩ ?_
  show sh_mW _ _ _ (_, _, []) (sp_mrem (sh_u2 I 0 0 0) s t l91) D _ _ _ _ _
  refine sh_mp (fun w Z k => sh_aload_n dc_Mod_interrupt_94 rfl rfl k) ?_
  refine sh_mget 1 dc_Mod_interrupt_95 (by decide) fl_Mod_7 rfl rfl rfl rfl ?_
  refine sh_mp (fun w Z k => sh_iload_n dc_Mod_interrupt_98 rfl rfl k) ?_
  refine sh_mp (fun w Z k => sh_iconst (v := 0) dc_Mod_interrupt_99 (by decide) k) ?_
  refine sh_mzast 1 (l := 6) (k := t) dc_Mod_interrupt_100 (by decide) rfl (by omega) (by decide) (by decide) ?_
  refine sh_mp (fun w Z k => sh_aload_n dc_Mod_interrupt_101 rfl rfl k) ?_
  refine sh_mget 4 dc_Mod_interrupt_102 (by decide) fl_Mod_20 rfl rfl rfl rfl ?_
  refine sh_mp (fun w Z k => sh_iload_n dc_Mod_interrupt_105 rfl rfl k) ?_
  refine sh_mp (fun w Z k => sh_iconst (v := 3) dc_Mod_interrupt_106 (by decide) k) ?_
  refine sh_miast 4 (l := 6) (k := t) dc_Mod_interrupt_107 (by decide) rfl (by omega) (by decide) ?_
  refine sh_mp (fun w Z k => sh_aload_n dc_Mod_interrupt_108 rfl rfl k) ?_
  refine sh_mp (fun w Z k => sh_iload_n dc_Mod_interrupt_109 rfl rfl k) ?_
  refine sh_mstk (show ([.int (I 5 t), .ref mq] : List Value) = [.int (nI s), .ref mq] from by rw [ep]) ?_
  refine sh_mcall (As := [.int (nI s)]) (fun w hw => by obtain ⟨fs, hw⟩ := hw; exact sh_virt dc_Mod_interrupt_110 lm_Mod_serve ln_Mod_121 wd_1016 wd_41 rfl rfl (Nat.le_of_ble_eq_true rfl) hw rfl) (ml_serve (s := s) (l := l110) (by omega) (Eq.mpr (by rw [(show (sh_u2 (sh_u2 (sp_mrem (sh_u2 I 0 0 0) s t l91) 1 t 0) 4 t 3) 12 s = I 12 s from (Eq.trans (sh_u2_row (by decide) _) (Eq.trans (sh_u2_row (by decide) _) (Eq.trans (sp_mrem_keep (by decide) _) (sh_u2_row (by decide) _)))))]) c0_45) v5_110 v6_110) ⟨(Nat.le_of_ble_eq_true rfl), (Nat.le_of_ble_eq_true rfl), (Nat.le_of_ble_eq_true rfl), (Nat.le_of_ble_eq_true rfl)⟩ ?_
  show sh_mW _ _ _ (_, _, []) (sp_mserve s l110.length (sh_u2 (sh_u2 (sp_mrem (sh_u2 I 0 0 0) s t l91) 1 t 0) 4 t 3) D l110).1 (sp_mserve s l110.length (sh_u2 (sh_u2 (sp_mrem (sh_u2 I 0 0 0) s t l91) 1 t 0) 4 t 3) D l110).2 _ _ _ _ _
  refine sh_mp (fun w Z k => sh_aload_n dc_Mod_interrupt_113 rfl rfl k) ?_
  refine sh_mget 4 dc_Mod_interrupt_114 (by decide) fl_Mod_20 rfl rfl rfl rfl ?_
  refine sh_mp (fun w Z k => sh_iload_n dc_Mod_interrupt_117 rfl rfl k) ?_
  refine sh_miald 4 (l := 6) (k := t) dc_Mod_interrupt_118 (by decide) rfl (by omega) (by decide) ?_
  exact sh_me (fun w => sh_ireturn dc_Mod_interrupt_119 rfl rfl (by decide) (by decide))
theorem mx_Mod_interrupt_b_3 {mq : Nat} {A : Nat → Nat} {I : sh_II} {D : sh_DD} {t : Nat} {s : Nat} (ht : t < 6) (hs : s < 8) (ep : I 5 t = nI s) (hb1 : ¬ (I 1 t) = 0) (c0_45 : ¬ (I 12 s) = 6) (c1_54 : ¬ (I 9 t) ≤ 0) : sh_mM mq A md_Mod_interrupt [.ref mq, .int (nI t)] I D (some (.int (I 4 t))) (sh_u2 (sh_u2 I 0 0 0) 2 t 1) D := by
  refine sh_mp (fun w Z k => sh_aload_n dc_Mod_interrupt_0 rfl rfl k) ?_
  refine sh_mp (fun w Z k => sh_iconst (v := 0) dc_Mod_interrupt_1 (by decide) k) ?_
  refine sh_mput 0 dc_Mod_interrupt_2 (by decide) fl_Mod_78 rfl ?_
  refine sh_mp (fun w Z k => sh_aload_n dc_Mod_interrupt_5 rfl rfl k) ?_
  refine sh_mp (fun w Z k => sh_iload_n dc_Mod_interrupt_6 rfl rfl k) ?_
  refine sh_mp (fun w Z k => sh_bipush (v := 6) dc_Mod_interrupt_7 (by decide) k) ?_
  refine sh_mcall (As := [.int (nI t), .int 6]) (fun w hw => by obtain ⟨fs, hw⟩ := hw; exact sh_virt dc_Mod_interrupt_9 lm_Mod_out ln_Mod_82 wd_953 wd_29 rfl rfl (Nat.le_of_ble_eq_true rfl) hw rfl) (mx_Mod_out_2 (a := nI t) (b := 6) (nI_pos (by omega)) (sp_lt6 ht)) ⟨(Nat.le_of_ble_eq_true rfl), (Nat.le_of_ble_eq_true rfl), (Nat.le_of_ble_eq_true rfl), (Nat.le_of_ble_eq_true rfl)⟩ ?_
  show sh_mW _ _ _ (_, _, [.int 0]) (sh_u2 I 0 0 0) D _ _ _ _ _
  refine sh_mp (fun w Z k => sh_if_eq (tgt := 21) dc_Mod_interrupt_12 (by decide) (fun _ => k) (fun z => absurd (by decide) z)) ?_
  refine sh_mp (fun w Z k => sh_aload_n dc_Mod_interrupt_21 rfl rfl k) ?_
  refine sh_mget 5 dc_Mod_interrupt_22 (by decide) fl_Mod_24 rfl rfl rfl rfl ?_
  refine sh_mp (fun w Z k => sh_iload_n dc_Mod_interrupt_25 rfl rfl k) ?_
  refine sh_miald 5 (l := 6) (k := t) dc_Mod_interrupt_26 (by decide) rfl (by omega) (by decide) ?_
  refine sh_mti (show (sh_u2 I 0 0 0) 5 t = I 5 t from (sh_u2_row (by decide) _)) ?_
  refine sh_mp (fun w Z k => sh_istore_n dc_Mod_interrupt_27 rfl (by decide) k) ?_
  refine sh_mp (fun w Z k => sh_aload_n dc_Mod_interrupt_28 rfl rfl k) ?_
  refine sh_mget 1 dc_Mod_interrupt_29 (by decide) fl_Mod_7 rfl rfl rfl rfl ?_
  refine sh_mp (fun w Z k => sh_iload_n dc_Mod_interrupt_32 rfl rfl k) ?_
  refine sh_mzald 1 (l := 6) (k := t) dc_Mod_interrupt_33 (by decide) rfl (by omega) (by decide) ?_
  refine sh_mti (show (sh_u2 I 0 0 0) 1 t = I 1 t from (sh_u2_row (by decide) _)) ?_
  refine sh_mp (fun w Z k => sh_if_eq (tgt := 57) dc_Mod_interrupt_34 (by decide) (fun z => absurd z hb1) (fun _ => k)) ?_
  refine sh_mp (fun w Z k => sh_aload_n dc_Mod_interrupt_37 rfl rfl k) ?_
  refine sh_mget 12 dc_Mod_interrupt_38 (by decide) fl_Mod_42 rfl rfl rfl rfl ?_
  refine sh_mp (fun w Z k => sh_iload_n dc_Mod_interrupt_41 rfl rfl k) ?_
  refine sh_miald 12 (l := 8) (k := s) dc_Mod_interrupt_42 (by decide) ep (by omega) (by decide) ?_
  refine sh_mti (show (sh_u2 I 0 0 0) 12 s = I 12 s from (sh_u2_row (by decide) _)) ?_
  refine sh_mp (fun w Z k => sh_bipush (v := 6) dc_Mod_interrupt_43 (by decide) k) ?_
  refine sh_mp (fun w Z k => sh_icmp_eq (tgt := 67) dc_Mod_interrupt_45 (by decide) (fun z => absurd z c0_45) (fun _ => k)) ?_
  refine sh_mp (fun w Z k => sh_aload_n dc_Mod_interrupt_48 rfl rfl k) ?_
  refine sh_mget 9 dc_Mod_interrupt_49 (by decide) fl_Mod_36 rfl rfl rfl rfl ?_
  refine sh_mp (fun w Z k => sh_iload_n dc_Mod_interrupt_52 rfl rfl k) ?_
  refine sh_miald 9 (l := 6) (k := t) dc_Mod_interrupt_53 (by decide) rfl (by omega) (by decide) ?_
  refine sh_mti (show (sh_u2 I 0 0 0) 9 t = I 9 t from (sh_u2_row (by decide) _)) ?_
  refine sh_mp (fun w Z k => sh_if_le (tgt := 67) dc_Mod_interrupt_54 (by decide) (fun z => absurd z c1_54) (fun _ => k)) ?_
  refine sh_mp (fun w Z k => sh_aload_n dc_Mod_interrupt_57 rfl rfl k) ?_
  refine sh_mget 2 dc_Mod_interrupt_58 (by decide) fl_Mod_13 rfl rfl rfl rfl ?_
  refine sh_mp (fun w Z k => sh_iload_n dc_Mod_interrupt_61 rfl rfl k) ?_
  refine sh_mp (fun w Z k => sh_iconst (v := 1) dc_Mod_interrupt_62 (by decide) k) ?_
  refine sh_mzast 2 (l := 6) (k := t) dc_Mod_interrupt_63 (by decide) rfl (by omega) (by decide) (by decide) ?_
  refine sh_mp (fun w Z k => sh_goto_ (tgt := 113) dc_Mod_interrupt_64 (by decide) k) ?_
  refine sh_mp (fun w Z k => sh_aload_n dc_Mod_interrupt_113 rfl rfl k) ?_
  refine sh_mget 4 dc_Mod_interrupt_114 (by decide) fl_Mod_20 rfl rfl rfl rfl ?_
  refine sh_mp (fun w Z k => sh_iload_n dc_Mod_interrupt_117 rfl rfl k) ?_
  refine sh_miald 4 (l := 6) (k := t) dc_Mod_interrupt_118 (by decide) rfl (by omega) (by decide) ?_
  refine sh_mti (show (sh_u2 (sh_u2 I 0 0 0) 2 t 1) 4 t = I 4 t from (Eq.trans (sh_u2_row (by decide) _) (sh_u2_row (by decide) _))) ?_
  exact sh_me (fun w => sh_ireturn dc_Mod_interrupt_119 rfl rfl (by decide) (by decide))
