theorem mx_Mod_thrown_1 {mq : Nat} {A : Nat → Nat} {I : sh_II} {D : sh_DD}  : sh_mM mq A md_Mod_thrown [.ref mq] I D (some (.int (I 0 0))) I D := by
  refine sh_mp (fun w Z k => sh_aload_n dc_Mod_thrown_0 rfl rfl k) ?_
  refine sh_mget 0 dc_Mod_thrown_1 (by decide) fl_Mod_78 rfl rfl rfl rfl ?_
  exact sh_me (fun w => sh_ireturn dc_Mod_thrown_4 rfl rfl (by decide) (by decide))
theorem mx_Mod_fail_1 {mq : Nat} {A : Nat → Nat} {I : sh_II} {D : sh_DD} {c : Int32} : sh_mM mq A md_Mod_fail [.ref mq, .int c] I D (some (.int 0)) (sh_u2 I 0 0 c) D := by
  refine sh_mp (fun w Z k => sh_aload_n dc_Mod_fail_0 rfl rfl k) ?_
  refine sh_mp (fun w Z k => sh_iload_n dc_Mod_fail_1 rfl rfl k) ?_
  refine sh_mput 0 dc_Mod_fail_2 (by decide) fl_Mod_78 rfl ?_
  refine sh_mp (fun w Z k => sh_iconst (v := 0) dc_Mod_fail_5 (by decide) k) ?_
  exact sh_me (fun w => sh_ireturn dc_Mod_fail_6 rfl rfl (by decide) (by decide))
theorem mx_Mod_out_1 {mq : Nat} {A : Nat → Nat} {I : sh_II} {D : sh_DD} {a : Int32} {b : Int32} (c0_1 : a < 0) : sh_mM mq A md_Mod_out [.ref mq, .int a, .int b] I D (some (.int 1)) I D := by
  refine sh_mp (fun w Z k => sh_iload_n dc_Mod_out_0 rfl rfl k) ?_
  refine sh_mp (fun w Z k => sh_if_lt (tgt := 9) dc_Mod_out_1 (by decide) (fun _ => k) (fun z => absurd c0_1 z)) ?_
  refine sh_mp (fun w Z k => sh_iconst (v := 1) dc_Mod_out_9 (by decide) k) ?_
  refine sh_mp (fun w Z k => sh_goto_ (tgt := 14) dc_Mod_out_10 (by decide) k) ?_
  exact sh_me (fun w => sh_ireturn dc_Mod_out_14 rfl rfl (by decide) (by decide))
theorem mx_Mod_out_2 {mq : Nat} {A : Nat → Nat} {I : sh_II} {D : sh_DD} {a : Int32} {b : Int32} (c0_1 : ¬ a < 0) (c1_6 : a < b) : sh_mM mq A md_Mod_out [.ref mq, .int a, .int b] I D (some (.int 0)) I D := by
  refine sh_mp (fun w Z k => sh_iload_n dc_Mod_out_0 rfl rfl k) ?_
  refine sh_mp (fun w Z k => sh_if_lt (tgt := 9) dc_Mod_out_1 (by decide) (fun z => absurd z c0_1) (fun _ => k)) ?_
  refine sh_mp (fun w Z k => sh_iload_n dc_Mod_out_4 rfl rfl k) ?_
  refine sh_mp (fun w Z k => sh_iload_n dc_Mod_out_5 rfl rfl k) ?_
  refine sh_mp (fun w Z k => sh_icmp_lt (tgt := 13) dc_Mod_out_6 (by decide) (fun _ => k) (fun z => absurd c1_6 z)) ?_
  refine sh_mp (fun w Z k => sh_iconst (v := 0) dc_Mod_out_13 (by decide) k) ?_
  exact sh_me (fun w => sh_ireturn dc_Mod_out_14 rfl rfl (by decide) (by decide))
theorem mx_Mod_out_3 {mq : Nat} {A : Nat → Nat} {I : sh_II} {D : sh_DD} {a : Int32} {b : Int32} (c0_1 : ¬ a < 0) (c1_6 : ¬ a < b) : sh_mM mq A md_Mod_out [.ref mq, .int a, .int b] I D (some (.int 1)) I D := by
  refine sh_mp (fun w Z k => sh_iload_n dc_Mod_out_0 rfl rfl k) ?_
  refine sh_mp (fun w Z k => sh_if_lt (tgt := 9) dc_Mod_out_1 (by decide) (fun z => absurd z c0_1) (fun _ => k)) ?_
  refine sh_mp (fun w Z k => sh_iload_n dc_Mod_out_4 rfl rfl k) ?_
  refine sh_mp (fun w Z k => sh_iload_n dc_Mod_out_5 rfl rfl k) ?_
  refine sh_mp (fun w Z k => sh_icmp_lt (tgt := 13) dc_Mod_out_6 (by decide) (fun z => absurd z c1_6) (fun _ => k)) ?_
  refine sh_mp (fun w Z k => sh_iconst (v := 1) dc_Mod_out_9 (by decide) k) ?_
  refine sh_mp (fun w Z k => sh_goto_ (tgt := 14) dc_Mod_out_10 (by decide) k) ?_
  exact sh_me (fun w => sh_ireturn dc_Mod_out_14 rfl rfl (by decide) (by decide))
theorem mx_Mod_isLock_1 {mq : Nat} {A : Nat → Nat} {I : sh_II} {D : sh_DD} {s : Nat} (hs : s < 8) (c0_6 : (I 12 s) = 0) : sh_mM mq A md_Mod_isLock [.ref mq, .int (nI s)] I D (some (.int 1)) I D := by
  refine sh_mp (fun w Z k => sh_aload_n dc_Mod_isLock_0 rfl rfl k) ?_
  refine sh_mget 12 dc_Mod_isLock_1 (by decide) fl_Mod_42 rfl rfl rfl rfl ?_
  refine sh_mp (fun w Z k => sh_iload_n dc_Mod_isLock_4 rfl rfl k) ?_
  refine sh_miald 12 (l := 8) (k := s) dc_Mod_isLock_5 (by decide) rfl (by omega) (by decide) ?_
  refine sh_mp (fun w Z k => sh_if_eq (tgt := 19) dc_Mod_isLock_6 (by decide) (fun _ => k) (fun z => absurd c0_6 z)) ?_
  refine sh_mp (fun w Z k => sh_iconst (v := 1) dc_Mod_isLock_19 (by decide) k) ?_
  refine sh_mp (fun w Z k => sh_goto_ (tgt := 24) dc_Mod_isLock_20 (by decide) k) ?_
  exact sh_me (fun w => sh_ireturn dc_Mod_isLock_24 rfl rfl (by decide) (by decide))
theorem mx_Mod_isLock_2 {mq : Nat} {A : Nat → Nat} {I : sh_II} {D : sh_DD} {s : Nat} (hs : s < 8) (c0_6 : ¬ (I 12 s) = 0) (c1_16 : (I 12 s) = 1) : sh_mM mq A md_Mod_isLock [.ref mq, .int (nI s)] I D (some (.int 1)) I D := by
  refine sh_mp (fun w Z k => sh_aload_n dc_Mod_isLock_0 rfl rfl k) ?_
  refine sh_mget 12 dc_Mod_isLock_1 (by decide) fl_Mod_42 rfl rfl rfl rfl ?_
  refine sh_mp (fun w Z k => sh_iload_n dc_Mod_isLock_4 rfl rfl k) ?_
  refine sh_miald 12 (l := 8) (k := s) dc_Mod_isLock_5 (by decide) rfl (by omega) (by decide) ?_
  refine sh_mp (fun w Z k => sh_if_eq (tgt := 19) dc_Mod_isLock_6 (by decide) (fun z => absurd z c0_6) (fun _ => k)) ?_
  refine sh_mp (fun w Z k => sh_aload_n dc_Mod_isLock_9 rfl rfl k) ?_
  refine sh_mget 12 dc_Mod_isLock_10 (by decide) fl_Mod_42 rfl rfl rfl rfl ?_
  refine sh_mp (fun w Z k => sh_iload_n dc_Mod_isLock_13 rfl rfl k) ?_
  refine sh_miald 12 (l := 8) (k := s) dc_Mod_isLock_14 (by decide) rfl (by omega) (by decide) ?_
  refine sh_mp (fun w Z k => sh_iconst (v := 1) dc_Mod_isLock_15 (by decide) k) ?_
  refine sh_mp (fun w Z k => sh_icmp_ne (tgt := 23) dc_Mod_isLock_16 (by decide) (fun z => absurd c1_16 z) (fun _ => k)) ?_
  refine sh_mp (fun w Z k => sh_iconst (v := 1) dc_Mod_isLock_19 (by decide) k) ?_
  refine sh_mp (fun w Z k => sh_goto_ (tgt := 24) dc_Mod_isLock_20 (by decide) k) ?_
  exact sh_me (fun w => sh_ireturn dc_Mod_isLock_24 rfl rfl (by decide) (by decide))
theorem mx_Mod_isLock_3 {mq : Nat} {A : Nat → Nat} {I : sh_II} {D : sh_DD} {s : Nat} (hs : s < 8) (c0_6 : ¬ (I 12 s) = 0) (c1_16 : ¬ (I 12 s) = 1) : sh_mM mq A md_Mod_isLock [.ref mq, .int (nI s)] I D (some (.int 0)) I D := by
  refine sh_mp (fun w Z k => sh_aload_n dc_Mod_isLock_0 rfl rfl k) ?_
  refine sh_mget 12 dc_Mod_isLock_1 (by decide) fl_Mod_42 rfl rfl rfl rfl ?_
  refine sh_mp (fun w Z k => sh_iload_n dc_Mod_isLock_4 rfl rfl k) ?_
  refine sh_miald 12 (l := 8) (k := s) dc_Mod_isLock_5 (by decide) rfl (by omega) (by decide) ?_
  refine sh_mp (fun w Z k => sh_if_eq (tgt := 19) dc_Mod_isLock_6 (by decide) (fun z => absurd z c0_6) (fun _ => k)) ?_
  refine sh_mp (fun w Z k => sh_aload_n dc_Mod_isLock_9 rfl rfl k) ?_
  refine sh_mget 12 dc_Mod_isLock_10 (by decide) fl_Mod_42 rfl rfl rfl rfl ?_
  refine sh_mp (fun w Z k => sh_iload_n dc_Mod_isLock_13 rfl rfl k) ?_
  refine sh_miald 12 (l := 8) (k := s) dc_Mod_isLock_14 (by decide) rfl (by omega) (by decide) ?_
  refine sh_mp (fun w Z k => sh_iconst (v := 1) dc_Mod_isLock_15 (by decide) k) ?_
  refine sh_mp (fun w Z k => sh_icmp_ne (tgt := 23) dc_Mod_isLock_16 (by decide) (fun _ => k) (fun z => absurd z c1_16)) ?_
  refine sh_mp (fun w Z k => sh_iconst (v := 0) dc_Mod_isLock_23 (by decide) k) ?_
  exact sh_me (fun w => sh_ireturn dc_Mod_isLock_24 rfl rfl (by decide) (by decide))
theorem mx_Mod_badLimit_1 {mq : Nat} {A : Nat → Nat} {I : sh_II} {D : sh_DD} {a : UInt64} (c0_5 : (Op.cmpValue (FP.dcmp a 13830554455654793216) .l) < 0) : sh_mM mq A md_Mod_badLimit [.ref mq, .double a] I D (some (.int 1)) I D := by
  refine sh_mp (fun w Z k => sh_dload_n dc_Mod_badLimit_0 rfl rfl k) ?_
  refine sh_mp (fun w Z k => sh_ldc2d (v := 13830554455654793216) dc_Mod_badLimit_1 wd_973 k) ?_
  refine sh_mp (fun w Z k => sh_dcmp dc_Mod_badLimit_4 k) ?_
  refine sh_mp (fun w Z k => sh_if_lt (tgt := 16) dc_Mod_badLimit_5 (by decide) (fun _ => k) (fun z => absurd c0_5 z)) ?_
  refine sh_mp (fun w Z k => sh_iconst (v := 1) dc_Mod_badLimit_16 (by decide) k) ?_
  refine sh_mp (fun w Z k => sh_goto_ (tgt := 21) dc_Mod_badLimit_17 (by decide) k) ?_
  exact sh_me (fun w => sh_ireturn dc_Mod_badLimit_21 rfl rfl (by decide) (by decide))
theorem mx_Mod_badLimit_2 {mq : Nat} {A : Nat → Nat} {I : sh_II} {D : sh_DD} {a : UInt64} (c0_5 : ¬ (Op.cmpValue (FP.dcmp a 13830554455654793216) .l) < 0) (c1_13 : (Op.cmpValue (FP.dcmp a 4652007308841189376) .g) ≤ 0) : sh_mM mq A md_Mod_badLimit [.ref mq, .double a] I D (some (.int 0)) I D := by
  refine sh_mp (fun w Z k => sh_dload_n dc_Mod_badLimit_0 rfl rfl k) ?_
  refine sh_mp (fun w Z k => sh_ldc2d (v := 13830554455654793216) dc_Mod_badLimit_1 wd_973 k) ?_
  refine sh_mp (fun w Z k => sh_dcmp dc_Mod_badLimit_4 k) ?_
  refine sh_mp (fun w Z k => sh_if_lt (tgt := 16) dc_Mod_badLimit_5 (by decide) (fun z => absurd z c0_5) (fun _ => k)) ?_
  refine sh_mp (fun w Z k => sh_dload_n dc_Mod_badLimit_8 rfl rfl k) ?_
  refine sh_mp (fun w Z k => sh_ldc2d (v := 4652007308841189376) dc_Mod_badLimit_9 wd_964 k) ?_
  refine sh_mp (fun w Z k => sh_dcmp dc_Mod_badLimit_12 k) ?_
  refine sh_mp (fun w Z k => sh_if_le (tgt := 20) dc_Mod_badLimit_13 (by decide) (fun _ => k) (fun z => absurd c1_13 z)) ?_
  refine sh_mp (fun w Z k => sh_iconst (v := 0) dc_Mod_badLimit_20 (by decide) k) ?_
  exact sh_me (fun w => sh_ireturn dc_Mod_badLimit_21 rfl rfl (by decide) (by decide))
theorem mx_Mod_badLimit_3 {mq : Nat} {A : Nat → Nat} {I : sh_II} {D : sh_DD} {a : UInt64} (c0_5 : ¬ (Op.cmpValue (FP.dcmp a 13830554455654793216) .l) < 0) (c1_13 : ¬ (Op.cmpValue (FP.dcmp a 4652007308841189376) .g) ≤ 0) : sh_mM mq A md_Mod_badLimit [.ref mq, .double a] I D (some (.int 1)) I D := by
  refine sh_mp (fun w Z k => sh_dload_n dc_Mod_badLimit_0 rfl rfl k) ?_
  refine sh_mp (fun w Z k => sh_ldc2d (v := 13830554455654793216) dc_Mod_badLimit_1 wd_973 k) ?_
  refine sh_mp (fun w Z k => sh_dcmp dc_Mod_badLimit_4 k) ?_
  refine sh_mp (fun w Z k => sh_if_lt (tgt := 16) dc_Mod_badLimit_5 (by decide) (fun z => absurd z c0_5) (fun _ => k)) ?_
  refine sh_mp (fun w Z k => sh_dload_n dc_Mod_badLimit_8 rfl rfl k) ?_
  refine sh_mp (fun w Z k => sh_ldc2d (v := 4652007308841189376) dc_Mod_badLimit_9 wd_964 k) ?_
  refine sh_mp (fun w Z k => sh_dcmp dc_Mod_badLimit_12 k) ?_
  refine sh_mp (fun w Z k => sh_if_le (tgt := 20) dc_Mod_badLimit_13 (by decide) (fun z => absurd z c1_13) (fun _ => k)) ?_
  refine sh_mp (fun w Z k => sh_iconst (v := 1) dc_Mod_badLimit_16 (by decide) k) ?_
  refine sh_mp (fun w Z k => sh_goto_ (tgt := 21) dc_Mod_badLimit_17 (by decide) k) ?_
  exact sh_me (fun w => sh_ireturn dc_Mod_badLimit_21 rfl rfl (by decide) (by decide))
theorem mx_Mod_check_1 {mq : Nat} {A : Nat → Nat} {I : sh_II} {D : sh_DD} {t : Nat} {s : Nat} (ht : t < 6) (hs : s < 8) (c0_6 : 0 ≤ (I 12 s)) (c1_19 : (I 1 t) = 0) : sh_mM mq A md_Mod_check [.ref mq, .int (nI t), .int (nI s)] I D (some (.int 0)) I D := by
  refine sh_mp (fun w Z k => sh_aload_n dc_Mod_check_0 rfl rfl k) ?_
  refine sh_mget 12 dc_Mod_check_1 (by decide) fl_Mod_42 rfl rfl rfl rfl ?_
  refine sh_mp (fun w Z k => sh_iload_n dc_Mod_check_4 rfl rfl k) ?_
  refine sh_miald 12 (l := 8) (k := s) dc_Mod_check_5 (by decide) rfl (by omega) (by decide) ?_
  refine sh_mp (fun w Z k => sh_if_ge (tgt := 13) dc_Mod_check_6 (by decide) (fun _ => k) (fun z => absurd c0_6 z)) ?_
  refine sh_mp (fun w Z k => sh_aload_n dc_Mod_check_13 rfl rfl k) ?_
  refine sh_mget 1 dc_Mod_check_14 (by decide) fl_Mod_7 rfl rfl rfl rfl ?_
  refine sh_mp (fun w Z k => sh_iload_n dc_Mod_check_17 rfl rfl k) ?_
  refine sh_mzald 1 (l := 6) (k := t) dc_Mod_check_18 (by decide) rfl (by omega) (by decide) ?_
  refine sh_mp (fun w Z k => sh_if_eq (tgt := 26) dc_Mod_check_19 (by decide) (fun _ => k) (fun z => absurd c1_19 z)) ?_
  refine sh_mp (fun w Z k => sh_iconst (v := 0) dc_Mod_check_26 (by decide) k) ?_
  exact sh_me (fun w => sh_ireturn dc_Mod_check_27 rfl rfl (by decide) (by decide))
theorem mx_Mod_check_2 {mq : Nat} {A : Nat → Nat} {I : sh_II} {D : sh_DD} {t : Nat} {s : Nat} (ht : t < 6) (hs : s < 8) (c0_6 : 0 ≤ (I 12 s)) (c1_19 : ¬ (I 1 t) = 0) : sh_mM mq A md_Mod_check [.ref mq, .int (nI t), .int (nI s)] I D (some (.int 3)) I D := by
  refine sh_mp (fun w Z k => sh_aload_n dc_Mod_check_0 rfl rfl k) ?_
  refine sh_mget 12 dc_Mod_check_1 (by decide) fl_Mod_42 rfl rfl rfl rfl ?_
  refine sh_mp (fun w Z k => sh_iload_n dc_Mod_check_4 rfl rfl k) ?_
  refine sh_miald 12 (l := 8) (k := s) dc_Mod_check_5 (by decide) rfl (by omega) (by decide) ?_
  refine sh_mp (fun w Z k => sh_if_ge (tgt := 13) dc_Mod_check_6 (by decide) (fun _ => k) (fun z => absurd c0_6 z)) ?_
  refine sh_mp (fun w Z k => sh_aload_n dc_Mod_check_13 rfl rfl k) ?_
  refine sh_mget 1 dc_Mod_check_14 (by decide) fl_Mod_7 rfl rfl rfl rfl ?_
  refine sh_mp (fun w Z k => sh_iload_n dc_Mod_check_17 rfl rfl k) ?_
  refine sh_mzald 1 (l := 6) (k := t) dc_Mod_check_18 (by decide) rfl (by omega) (by decide) ?_
  refine sh_mp (fun w Z k => sh_if_eq (tgt := 26) dc_Mod_check_19 (by decide) (fun z => absurd z c1_19) (fun _ => k)) ?_
  refine sh_mp (fun w Z k => sh_iconst (v := 3) dc_Mod_check_22 (by decide) k) ?_
  refine sh_mp (fun w Z k => sh_goto_ (tgt := 27) dc_Mod_check_23 (by decide) k) ?_
  exact sh_me (fun w => sh_ireturn dc_Mod_check_27 rfl rfl (by decide) (by decide))
theorem mx_Mod_check_3 {mq : Nat} {A : Nat → Nat} {I : sh_II} {D : sh_DD} {t : Nat} {s : Nat} (ht : t < 6) (hs : s < 8) (c0_6 : ¬ 0 ≤ (I 12 s)) : sh_mM mq A md_Mod_check [.ref mq, .int (nI t), .int (nI s)] I D (some (.int 2)) I D := by
  refine sh_mp (fun w Z k => sh_aload_n dc_Mod_check_0 rfl rfl k) ?_
  refine sh_mget 12 dc_Mod_check_1 (by decide) fl_Mod_42 rfl rfl rfl rfl ?_
  refine sh_mp (fun w Z k => sh_iload_n dc_Mod_check_4 rfl rfl k) ?_
  refine sh_miald 12 (l := 8) (k := s) dc_Mod_check_5 (by decide) rfl (by omega) (by decide) ?_
  refine sh_mp (fun w Z k => sh_if_ge (tgt := 13) dc_Mod_check_6 (by decide) (fun z => absurd z c0_6) (fun _ => k)) ?_
  refine sh_mp (fun w Z k => sh_iconst (v := 2) dc_Mod_check_9 (by decide) k) ?_
  refine sh_mp (fun w Z k => sh_goto_ (tgt := 27) dc_Mod_check_10 (by decide) k) ?_
  exact sh_me (fun w => sh_ireturn dc_Mod_check_27 rfl rfl (by decide) (by decide))
theorem mx_Mod_settle_1 {mq : Nat} {A : Nat → Nat} {I : sh_II} {D : sh_DD} {t : Nat} {c : Int32} (ht : t < 6) : sh_mM mq A md_Mod_settle [.ref mq, .int (nI t), .int c] I D (some (.int c)) (sh_u2 I 4 t c) D := by
  refine sh_mp (fun w Z k => sh_aload_n dc_Mod_settle_0 rfl rfl k) ?_
  refine sh_mget 4 dc_Mod_settle_1 (by decide) fl_Mod_20 rfl rfl rfl rfl ?_
  refine sh_mp (fun w Z k => sh_iload_n dc_Mod_settle_4 rfl rfl k) ?_
  refine sh_mp (fun w Z k => sh_iload_n dc_Mod_settle_5 rfl rfl k) ?_
  refine sh_miast 4 (l := 6) (k := t) dc_Mod_settle_6 (by decide) rfl (by omega) (by decide) ?_
  refine sh_mp (fun w Z k => sh_iload_n dc_Mod_settle_7 rfl rfl k) ?_
  exact sh_me (fun w => sh_ireturn dc_Mod_settle_8 rfl rfl (by decide) (by decide))
theorem mx_Mod_take_1 {mq : Nat} {A : Nat → Nat} {I : sh_II} {D : sh_DD} {t : Nat} {s : Nat} {m : Int32} (ht : t < 6) (hs : s < 8) (c0_11 : (I 12 s) = 2) : sh_mM mq A md_Mod_take [.ref mq, .int (nI t), .int (nI s), .int m] I D none (sh_u2 I 15 s ((I 15 s) - 1)) D := by
  refine sh_mp (fun w Z k => sh_aload_n dc_Mod_take_0 rfl rfl k) ?_
  refine sh_mget 12 dc_Mod_take_1 (by decide) fl_Mod_42 rfl rfl rfl rfl ?_
  refine sh_mp (fun w Z k => sh_iload_n dc_Mod_take_4 rfl rfl k) ?_
  refine sh_miald 12 (l := 8) (k := s) dc_Mod_take_5 (by decide) rfl (by omega) (by decide) ?_
  refine sh_mp (fun w Z k => sh_istore dc_Mod_take_6 (by decide) k) ?_
  refine sh_mp (fun w Z k => sh_iload dc_Mod_take_8 rfl k) ?_
  refine sh_mp (fun w Z k => sh_iconst (v := 2) dc_Mod_take_10 (by decide) k) ?_
  refine sh_mp (fun w Z k => sh_icmp_eq (tgt := 20) dc_Mod_take_11 (by decide) (fun _ => k) (fun z => absurd c0_11 z)) ?_
  refine sh_mp (fun w Z k => sh_aload_n dc_Mod_take_20 rfl rfl k) ?_
  refine sh_mget 15 dc_Mod_take_21 (by decide) fl_Mod_51 rfl rfl rfl rfl ?_
  refine sh_mp (fun w Z k => sh_iload_n dc_Mod_take_24 rfl rfl k) ?_
  refine sh_mp (fun w Z k => sh_dup2 dc_Mod_take_25 rfl rfl k) ?_
  refine sh_miald 15 (l := 8) (k := s) dc_Mod_take_26 (by decide) rfl (by omega) (by decide) ?_
  refine sh_mp (fun w Z k => sh_iconst (v := 1) dc_Mod_take_27 (by decide) k) ?_
  refine sh_mp (fun w Z k => sh_isub dc_Mod_take_28 k) ?_
  refine sh_miast 15 (l := 8) (k := s) dc_Mod_take_29 (by decide) rfl (by omega) (by decide) ?_
  refine sh_mp (fun w Z k => sh_goto_ (tgt := 84) dc_Mod_take_30 (by decide) k) ?_
  exact sh_me (fun w => sh_return dc_Mod_take_84 rfl (by decide) (by decide))
theorem mx_Mod_take_2 {mq : Nat} {A : Nat → Nat} {I : sh_II} {D : sh_DD} {t : Nat} {s : Nat} {m : Int32} (ht : t < 6) (hs : s < 8) (c0_11 : ¬ (I 12 s) = 2) (c1_17 : (I 12 s) = 3) : sh_mM mq A md_Mod_take [.ref mq, .int (nI t), .int (nI s), .int m] I D none (sh_u2 I 15 s ((I 15 s) - 1)) D := by
  refine sh_mp (fun w Z k => sh_aload_n dc_Mod_take_0 rfl rfl k) ?_
  refine sh_mget 12 dc_Mod_take_1 (by decide) fl_Mod_42 rfl rfl rfl rfl ?_
  refine sh_mp (fun w Z k => sh_iload_n dc_Mod_take_4 rfl rfl k) ?_
  refine sh_miald 12 (l := 8) (k := s) dc_Mod_take_5 (by decide) rfl (by omega) (by decide) ?_
  refine sh_mp (fun w Z k => sh_istore dc_Mod_take_6 (by decide) k) ?_
  refine sh_mp (fun w Z k => sh_iload dc_Mod_take_8 rfl k) ?_
  refine sh_mp (fun w Z k => sh_iconst (v := 2) dc_Mod_take_10 (by decide) k) ?_
  refine sh_mp (fun w Z k => sh_icmp_eq (tgt := 20) dc_Mod_take_11 (by decide) (fun z => absurd z c0_11) (fun _ => k)) ?_
  refine sh_mp (fun w Z k => sh_iload dc_Mod_take_14 rfl k) ?_
  refine sh_mp (fun w Z k => sh_iconst (v := 3) dc_Mod_take_16 (by decide) k) ?_
  refine sh_mp (fun w Z k => sh_icmp_ne (tgt := 33) dc_Mod_take_17 (by decide) (fun z => absurd c1_17 z) (fun _ => k)) ?_
  refine sh_mp (fun w Z k => sh_aload_n dc_Mod_take_20 rfl rfl k) ?_
  refine sh_mget 15 dc_Mod_take_21 (by decide) fl_Mod_51 rfl rfl rfl rfl ?_
  refine sh_mp (fun w Z k => sh_iload_n dc_Mod_take_24 rfl rfl k) ?_
  refine sh_mp (fun w Z k => sh_dup2 dc_Mod_take_25 rfl rfl k) ?_
  refine sh_miald 15 (l := 8) (k := s) dc_Mod_take_26 (by decide) rfl (by omega) (by decide) ?_
  refine sh_mp (fun w Z k => sh_iconst (v := 1) dc_Mod_take_27 (by decide) k) ?_
  refine sh_mp (fun w Z k => sh_isub dc_Mod_take_28 k) ?_
  refine sh_miast 15 (l := 8) (k := s) dc_Mod_take_29 (by decide) rfl (by omega) (by decide) ?_
  refine sh_mp (fun w Z k => sh_goto_ (tgt := 84) dc_Mod_take_30 (by decide) k) ?_
  exact sh_me (fun w => sh_return dc_Mod_take_84 rfl (by decide) (by decide))
theorem mx_Mod_take_3 {mq : Nat} {A : Nat → Nat} {I : sh_II} {D : sh_DD} {t : Nat} {s : Nat} {m : Int32} (ht : t < 6) (hs : s < 8) (c0_11 : ¬ (I 12 s) = 2) (c1_17 : ¬ (I 12 s) = 3) (c2_36 : (I 12 s) = 5) (c3_40 : m = 0) : sh_mM mq A md_Mod_take [.ref mq, .int (nI t), .int (nI s), .int m] I D none (sh_u2 I 17 ((6 * s) + t) ((I 17 ((6 * s) + t)) + 1)) D := by
  refine sh_mp (fun w Z k => sh_aload_n dc_Mod_take_0 rfl rfl k) ?_
  refine sh_mget 12 dc_Mod_take_1 (by decide) fl_Mod_42 rfl rfl rfl rfl ?_
  refine sh_mp (fun w Z k => sh_iload_n dc_Mod_take_4 rfl rfl k) ?_
  refine sh_miald 12 (l := 8) (k := s) dc_Mod_take_5 (by decide) rfl (by omega) (by decide) ?_
  refine sh_mp (fun w Z k => sh_istore dc_Mod_take_6 (by decide) k) ?_
  refine sh_mp (fun w Z k => sh_iload dc_Mod_take_8 rfl k) ?_
  refine sh_mp (fun w Z k => sh_iconst (v := 2) dc_Mod_take_10 (by decide) k) ?_
  refine sh_mp (fun w Z k => sh_icmp_eq (tgt := 20) dc_Mod_take_11 (by decide) (fun z => absurd z c0_11) (fun _ => k)) ?_
  refine sh_mp (fun w Z k => sh_iload dc_Mod_take_14 rfl k) ?_
  refine sh_mp (fun w Z k => sh_iconst (v := 3) dc_Mod_take_16 (by decide) k) ?_
  refine sh_mp (fun w Z k => sh_icmp_ne (tgt := 33) dc_Mod_take_17 (by decide) (fun _ => k) (fun z => absurd z c1_17)) ?_
  refine sh_mp (fun w Z k => sh_iload dc_Mod_take_33 rfl k) ?_
  refine sh_mp (fun w Z k => sh_iconst (v := 5) dc_Mod_take_35 (by decide) k) ?_
  refine sh_mp (fun w Z k => sh_icmp_ne (tgt := 61) dc_Mod_take_36 (by decide) (fun z => absurd c2_36 z) (fun _ => k)) ?_
  refine sh_mp (fun w Z k => sh_iload_n dc_Mod_take_39 rfl rfl k) ?_
  refine sh_mp (fun w Z k => sh_if_ne (tgt := 61) dc_Mod_take_40 (by decide) (fun z => absurd c3_40 z) (fun _ => k)) ?_
  refine sh_mp (fun w Z k => sh_aload_n dc_Mod_take_43 rfl rfl k) ?_
  refine sh_mget 17 dc_Mod_take_44 (by decide) fl_Mod_57 rfl rfl rfl rfl ?_
  refine sh_mp (fun w Z k => sh_bipush (v := 6) dc_Mod_take_47 (by decide) k) ?_
  refine sh_mp (fun w Z k => sh_iload_n dc_Mod_take_49 rfl rfl k) ?_
  refine sh_mp (fun w Z k => sh_imul dc_Mod_take_50 k) ?_
  refine sh_mp (fun w Z k => sh_iload_n dc_Mod_take_51 rfl rfl k) ?_
  refine sh_mp (fun w Z k => sh_iadd dc_Mod_take_52 k) ?_
  refine sh_mp (fun w Z k => sh_dup2 dc_Mod_take_53 rfl rfl k) ?_
  refine sh_miald 17 (l := 48) (k := (6 * s) + t) dc_Mod_take_54 (by decide) (sh_nadd (sh_nmul rfl rfl) rfl) (by omega) (by decide) ?_
  refine sh_mp (fun w Z k => sh_iconst (v := 1) dc_Mod_take_55 (by decide) k) ?_
  refine sh_mp (fun w Z k => sh_iadd dc_Mod_take_56 k) ?_
  refine sh_miast 17 (l := 48) (k := (6 * s) + t) dc_Mod_take_57 (by decide) (sh_nadd (sh_nmul rfl rfl) rfl) (by omega) (by decide) ?_
  refine sh_mp (fun w Z k => sh_goto_ (tgt := 84) dc_Mod_take_58 (by decide) k) ?_
  exact sh_me (fun w => sh_return dc_Mod_take_84 rfl (by decide) (by decide))
theorem mx_Mod_take_4 {mq : Nat} {A : Nat → Nat} {I : sh_II} {D : sh_DD} {t : Nat} {s : Nat} {m : Int32} (ht : t < 6) (hs : s < 8) (c0_11 : ¬ (I 12 s) = 2) (c1_17 : ¬ (I 12 s) = 3) (c2_36 : (I 12 s) = 5) (c3_40 : ¬ m = 0) (c4_64 : (I 12 s) = 4) : sh_mM mq A md_Mod_take [.ref mq, .int (nI t), .int (nI s), .int m] I D none I D := by
  refine sh_mp (fun w Z k => sh_aload_n dc_Mod_take_0 rfl rfl k) ?_
  refine sh_mget 12 dc_Mod_take_1 (by decide) fl_Mod_42 rfl rfl rfl rfl ?_
  refine sh_mp (fun w Z k => sh_iload_n dc_Mod_take_4 rfl rfl k) ?_
  refine sh_miald 12 (l := 8) (k := s) dc_Mod_take_5 (by decide) rfl (by omega) (by decide) ?_
  refine sh_mp (fun w Z k => sh_istore dc_Mod_take_6 (by decide) k) ?_
  refine sh_mp (fun w Z k => sh_iload dc_Mod_take_8 rfl k) ?_
  refine sh_mp (fun w Z k => sh_iconst (v := 2) dc_Mod_take_10 (by decide) k) ?_
  refine sh_mp (fun w Z k => sh_icmp_eq (tgt := 20) dc_Mod_take_11 (by decide) (fun z => absurd z c0_11) (fun _ => k)) ?_
  refine sh_mp (fun w Z k => sh_iload dc_Mod_take_14 rfl k) ?_
  refine sh_mp (fun w Z k => sh_iconst (v := 3) dc_Mod_take_16 (by decide) k) ?_
  refine sh_mp (fun w Z k => sh_icmp_ne (tgt := 33) dc_Mod_take_17 (by decide) (fun _ => k) (fun z => absurd z c1_17)) ?_
  refine sh_mp (fun w Z k => sh_iload dc_Mod_take_33 rfl k) ?_
  refine sh_mp (fun w Z k => sh_iconst (v := 5) dc_Mod_take_35 (by decide) k) ?_
  refine sh_mp (fun w Z k => sh_icmp_ne (tgt := 61) dc_Mod_take_36 (by decide) (fun z => absurd c2_36 z) (fun _ => k)) ?_
  refine sh_mp (fun w Z k => sh_iload_n dc_Mod_take_39 rfl rfl k) ?_
  refine sh_mp (fun w Z k => sh_if_ne (tgt := 61) dc_Mod_take_40 (by decide) (fun _ => k) (fun z => absurd z c3_40)) ?_
  refine sh_mp (fun w Z k => sh_iload dc_Mod_take_61 rfl k) ?_
  refine sh_mp (fun w Z k => sh_iconst (v := 4) dc_Mod_take_63 (by decide) k) ?_
  refine sh_mp (fun w Z k => sh_icmp_eq (tgt := 84) dc_Mod_take_64 (by decide) (fun _ => k) (fun z => absurd c4_64 z)) ?_
  exact sh_me (fun w => sh_return dc_Mod_take_84 rfl (by decide) (by decide))
theorem mx_Mod_take_5 {mq : Nat} {A : Nat → Nat} {I : sh_II} {D : sh_DD} {t : Nat} {s : Nat} {m : Int32} (ht : t < 6) (hs : s < 8) (c0_11 : ¬ (I 12 s) = 2) (c1_17 : ¬ (I 12 s) = 3) (c2_36 : (I 12 s) = 5) (c3_40 : ¬ m = 0) (c4_64 : ¬ (I 12 s) = 4) : sh_mM mq A md_Mod_take [.ref mq, .int (nI t), .int (nI s), .int m] I D none (sh_u2 (sh_u2 I 13 s (nI t)) 14 s ((I 14 s) + 1)) D := by
  refine sh_mp (fun w Z k => sh_aload_n dc_Mod_take_0 rfl rfl k) ?_
  refine sh_mget 12 dc_Mod_take_1 (by decide) fl_Mod_42 rfl rfl rfl rfl ?_
  refine sh_mp (fun w Z k => sh_iload_n dc_Mod_take_4 rfl rfl k) ?_
  refine sh_miald 12 (l := 8) (k := s) dc_Mod_take_5 (by decide) rfl (by omega) (by decide) ?_
  refine sh_mp (fun w Z k => sh_istore dc_Mod_take_6 (by decide) k) ?_
  refine sh_mp (fun w Z k => sh_iload dc_Mod_take_8 rfl k) ?_
  refine sh_mp (fun w Z k => sh_iconst (v := 2) dc_Mod_take_10 (by decide) k) ?_
  refine sh_mp (fun w Z k => sh_icmp_eq (tgt := 20) dc_Mod_take_11 (by decide) (fun z => absurd z c0_11) (fun _ => k)) ?_
  refine sh_mp (fun w Z k => sh_iload dc_Mod_take_14 rfl k) ?_
  refine sh_mp (fun w Z k => sh_iconst (v := 3) dc_Mod_take_16 (by decide) k) ?_
  refine sh_mp (fun w Z k => sh_icmp_ne (tgt := 33) dc_Mod_take_17 (by decide) (fun _ => k) (fun z => absurd z c1_17)) ?_
  refine sh_mp (fun w Z k => sh_iload dc_Mod_take_33 rfl k) ?_
  refine sh_mp (fun w Z k => sh_iconst (v := 5) dc_Mod_take_35 (by decide) k) ?_
  refine sh_mp (fun w Z k => sh_icmp_ne (tgt := 61) dc_Mod_take_36 (by decide) (fun z => absurd c2_36 z) (fun _ => k)) ?_
  refine sh_mp (fun w Z k => sh_iload_n dc_Mod_take_39 rfl rfl k) ?_
  refine sh_mp (fun w Z k => sh_if_ne (tgt := 61) dc_Mod_take_40 (by decide) (fun _ => k) (fun z => absurd z c3_40)) ?_
  refine sh_mp (fun w Z k => sh_iload dc_Mod_take_61 rfl k) ?_
  refine sh_mp (fun w Z k => sh_iconst (v := 4) dc_Mod_take_63 (by decide) k) ?_
  refine sh_mp (fun w Z k => sh_icmp_eq (tgt := 84) dc_Mod_take_64 (by decide) (fun z => absurd z c4_64) (fun _ => k)) ?_
  refine sh_mp (fun w Z k => sh_aload_n dc_Mod_take_67 rfl rfl k) ?_
  refine sh_mget 13 dc_Mod_take_68 (by decide) fl_Mod_45 rfl rfl rfl rfl ?_
  refine sh_mp (fun w Z k => sh_iload_n dc_Mod_take_71 rfl rfl k) ?_
  refine sh_mp (fun w Z k => sh_iload_n dc_Mod_take_72 rfl rfl k) ?_
  refine sh_miast 13 (l := 8) (k := s) dc_Mod_take_73 (by decide) rfl (by omega) (by decide) ?_
  refine sh_mp (fun w Z k => sh_aload_n dc_Mod_take_74 rfl rfl k) ?_
  refine sh_mget 14 dc_Mod_take_75 (by decide) fl_Mod_48 rfl rfl rfl rfl ?_
  refine sh_mp (fun w Z k => sh_iload_n dc_Mod_take_78 rfl rfl k) ?_
  refine sh_mp (fun w Z k => sh_dup2 dc_Mod_take_79 rfl rfl k) ?_
  refine sh_miald 14 (l := 8) (k := s) dc_Mod_take_80 (by decide) rfl (by omega) (by decide) ?_
  refine sh_mti (show (sh_u2 I 13 s (nI t)) 14 s = I 14 s from (sh_u2_row (by decide) _)) ?_
  refine sh_mp (fun w Z k => sh_iconst (v := 1) dc_Mod_take_81 (by decide) k) ?_
  refine sh_mp (fun w Z k => sh_iadd dc_Mod_take_82 k) ?_
  refine sh_miast 14 (l := 8) (k := s) dc_Mod_take_83 (by decide) rfl (by omega) (by decide) ?_
  exact sh_me (fun w => sh_return dc_Mod_take_84 rfl (by decide) (by decide))
theorem mx_Mod_take_6 {mq : Nat} {A : Nat → Nat} {I : sh_II} {D : sh_DD} {t : Nat} {s : Nat} {m : Int32} (ht : t < 6) (hs : s < 8) (c0_11 : ¬ (I 12 s) = 2) (c1_17 : ¬ (I 12 s) = 3) (c2_36 : ¬ (I 12 s) = 5) (c3_64 : (I 12 s) = 4) : sh_mM mq A md_Mod_take [.ref mq, .int (nI t), .int (nI s), .int m] I D none I D := by
  refine sh_mp (fun w Z k => sh_aload_n dc_Mod_take_0 rfl rfl k) ?_
  refine sh_mget 12 dc_Mod_take_1 (by decide) fl_Mod_42 rfl rfl rfl rfl ?_
  refine sh_mp (fun w Z k => sh_iload_n dc_Mod_take_4 rfl rfl k) ?_
  refine sh_miald 12 (l := 8) (k := s) dc_Mod_take_5 (by decide) rfl (by omega) (by decide) ?_
  refine sh_mp (fun w Z k => sh_istore dc_Mod_take_6 (by decide) k) ?_
  refine sh_mp (fun w Z k => sh_iload dc_Mod_take_8 rfl k) ?_
  refine sh_mp (fun w Z k => sh_iconst (v := 2) dc_Mod_take_10 (by decide) k) ?_
  refine sh_mp (fun w Z k => sh_icmp_eq (tgt := 20) dc_Mod_take_11 (by decide) (fun z => absurd z c0_11) (fun _ => k)) ?_
  refine sh_mp (fun w Z k => sh_iload dc_Mod_take_14 rfl k) ?_
  refine sh_mp (fun w Z k => sh_iconst (v := 3) dc_Mod_take_16 (by decide) k) ?_
  refine sh_mp (fun w Z k => sh_icmp_ne (tgt := 33) dc_Mod_take_17 (by decide) (fun _ => k) (fun z => absurd z c1_17)) ?_
  refine sh_mp (fun w Z k => sh_iload dc_Mod_take_33 rfl k) ?_
  refine sh_mp (fun w Z k => sh_iconst (v := 5) dc_Mod_take_35 (by decide) k) ?_
  refine sh_mp (fun w Z k => sh_icmp_ne (tgt := 61) dc_Mod_take_36 (by decide) (fun _ => k) (fun z => absurd z c2_36)) ?_
  refine sh_mp (fun w Z k => sh_iload dc_Mod_take_61 rfl k) ?_
  refine sh_mp (fun w Z k => sh_iconst (v := 4) dc_Mod_take_63 (by decide) k) ?_
  refine sh_mp (fun w Z k => sh_icmp_eq (tgt := 84) dc_Mod_take_64 (by decide) (fun _ => k) (fun z => absurd c3_64 z)) ?_
  exact sh_me (fun w => sh_return dc_Mod_take_84 rfl (by decide) (by decide))
theorem mx_Mod_take_7 {mq : Nat} {A : Nat → Nat} {I : sh_II} {D : sh_DD} {t : Nat} {s : Nat} {m : Int32} (ht : t < 6) (hs : s < 8) (c0_11 : ¬ (I 12 s) = 2) (c1_17 : ¬ (I 12 s) = 3) (c2_36 : ¬ (I 12 s) = 5) (c3_64 : ¬ (I 12 s) = 4) : sh_mM mq A md_Mod_take [.ref mq, .int (nI t), .int (nI s), .int m] I D none (sh_u2 (sh_u2 I 13 s (nI t)) 14 s ((I 14 s) + 1)) D := by
  refine sh_mp (fun w Z k => sh_aload_n dc_Mod_take_0 rfl rfl k) ?_
  refine sh_mget 12 dc_Mod_take_1 (by decide) fl_Mod_42 rfl rfl rfl rfl ?_
  refine sh_mp (fun w Z k => sh_iload_n dc_Mod_take_4 rfl rfl k) ?_
  refine sh_miald 12 (l := 8) (k := s) dc_Mod_take_5 (by decide) rfl (by omega) (by decide) ?_
  refine sh_mp (fun w Z k => sh_istore dc_Mod_take_6 (by decide) k) ?_
  refine sh_mp (fun w Z k => sh_iload dc_Mod_take_8 rfl k) ?_
  refine sh_mp (fun w Z k => sh_iconst (v := 2) dc_Mod_take_10 (by decide) k) ?_
  refine sh_mp (fun w Z k => sh_icmp_eq (tgt := 20) dc_Mod_take_11 (by decide) (fun z => absurd z c0_11) (fun _ => k)) ?_
  refine sh_mp (fun w Z k => sh_iload dc_Mod_take_14 rfl k) ?_
  refine sh_mp (fun w Z k => sh_iconst (v := 3) dc_Mod_take_16 (by decide) k) ?_
  refine sh_mp (fun w Z k => sh_icmp_ne (tgt := 33) dc_Mod_take_17 (by decide) (fun _ => k) (fun z => absurd z c1_17)) ?_
  refine sh_mp (fun w Z k => sh_iload dc_Mod_take_33 rfl k) ?_
  refine sh_mp (fun w Z k => sh_iconst (v := 5) dc_Mod_take_35 (by decide) k) ?_
  refine sh_mp (fun w Z k => sh_icmp_ne (tgt := 61) dc_Mod_take_36 (by decide) (fun _ => k) (fun z => absurd z c2_36)) ?_
  refine sh_mp (fun w Z k => sh_iload dc_Mod_take_61 rfl k) ?_
  refine sh_mp (fun w Z k => sh_iconst (v := 4) dc_Mod_take_63 (by decide) k) ?_
  refine sh_mp (fun w Z k => sh_icmp_eq (tgt := 84) dc_Mod_take_64 (by decide) (fun z => absurd z c3_64) (fun _ => k)) ?_
  refine sh_mp (fun w Z k => sh_aload_n dc_Mod_take_67 rfl rfl k) ?_
  refine sh_mget 13 dc_Mod_take_68 (by decide) fl_Mod_45 rfl rfl rfl rfl ?_
  refine sh_mp (fun w Z k => sh_iload_n dc_Mod_take_71 rfl rfl k) ?_
  refine sh_mp (fun w Z k => sh_iload_n dc_Mod_take_72 rfl rfl k) ?_
  refine sh_miast 13 (l := 8) (k := s) dc_Mod_take_73 (by decide) rfl (by omega) (by decide) ?_
  refine sh_mp (fun w Z k => sh_aload_n dc_Mod_take_74 rfl rfl k) ?_
  refine sh_mget 14 dc_Mod_take_75 (by decide) fl_Mod_48 rfl rfl rfl rfl ?_
  refine sh_mp (fun w Z k => sh_iload_n dc_Mod_take_78 rfl rfl k) ?_
  refine sh_mp (fun w Z k => sh_dup2 dc_Mod_take_79 rfl rfl k) ?_
  refine sh_miald 14 (l := 8) (k := s) dc_Mod_take_80 (by decide) rfl (by omega) (by decide) ?_
  refine sh_mti (show (sh_u2 I 13 s (nI t)) 14 s = I 14 s from (sh_u2_row (by decide) _)) ?_
  refine sh_mp (fun w Z k => sh_iconst (v := 1) dc_Mod_take_81 (by decide) k) ?_
  refine sh_mp (fun w Z k => sh_iadd dc_Mod_take_82 k) ?_
  refine sh_miast 14 (l := 8) (k := s) dc_Mod_take_83 (by decide) rfl (by omega) (by decide) ?_
  exact sh_me (fun w => sh_return dc_Mod_take_84 rfl (by decide) (by decide))
theorem mx_Mod_enter_1 {mq : Nat} {A : Nat → Nat} {I : sh_II} {D : sh_DD} {t : Nat} {s : Nat} {l : List Nat} (ht : t < 6) (hs : s < 8) (hr : cw_row I s l) (hlen : l.length < 6) : sh_mM mq A md_Mod_enter [.ref mq, .int (nI t), .int (nI s)] I D none (sh_u2 (sh_u2 (sh_u2 (sh_u2 I 18 ((6 * s) + l.length) (nI t)) 19 s ((I 19 s) + 1)) 5 t (nI s)) 1 t 1) (sh_u2 D 8 t (D 11 0)) := by
  refine sh_mp (fun w Z k => sh_aload_n dc_Mod_enter_0 rfl rfl k) ?_
  refine sh_mget 18 dc_Mod_enter_1 (by decide) fl_Mod_60 rfl rfl rfl rfl ?_
  refine sh_mp (fun w Z k => sh_bipush (v := 6) dc_Mod_enter_4 (by decide) k) ?_
  refine sh_mp (fun w Z k => sh_iload_n dc_Mod_enter_6 rfl rfl k) ?_
  refine sh_mp (fun w Z k => sh_imul dc_Mod_enter_7 k) ?_
  refine sh_mp (fun w Z k => sh_aload_n dc_Mod_enter_8 rfl rfl k) ?_
  refine sh_mget 19 dc_Mod_enter_9 (by decide) fl_Mod_63 rfl rfl rfl rfl ?_
  refine sh_mp (fun w Z k => sh_iload_n dc_Mod_enter_12 rfl rfl k) ?_
  refine sh_miald 19 (l := 8) (k := s) dc_Mod_enter_13 (by decide) rfl (by omega) (by decide) ?_
  refine sh_mp (fun w Z k => sh_iadd dc_Mod_enter_14 k) ?_
  refine sh_mp (fun w Z k => sh_iload_n dc_Mod_enter_15 rfl rfl k) ?_
  refine sh_miast 18 (l := 48) (k := (6 * s) + l.length) dc_Mod_enter_16 (by decide) (sh_nadd (sh_nmul rfl rfl) hr.1) (by omega) (by decide) ?_
  refine sh_mp (fun w Z k => sh_aload_n dc_Mod_enter_17 rfl rfl k) ?_
  refine sh_mget 19 dc_Mod_enter_18 (by decide) fl_Mod_63 rfl rfl rfl rfl ?_
  refine sh_mp (fun w Z k => sh_iload_n dc_Mod_enter_21 rfl rfl k) ?_
  refine sh_mp (fun w Z k => sh_dup2 dc_Mod_enter_22 rfl rfl k) ?_
  refine sh_miald 19 (l := 8) (k := s) dc_Mod_enter_23 (by decide) rfl (by omega) (by decide) ?_
  refine sh_mti (show (sh_u2 I 18 ((6 * s) + l.length) (nI t)) 19 s = I 19 s from (sh_u2_row (by decide) _)) ?_
  refine sh_mp (fun w Z k => sh_iconst (v := 1) dc_Mod_enter_24 (by decide) k) ?_
  refine sh_mp (fun w Z k => sh_iadd dc_Mod_enter_25 k) ?_
  refine sh_miast 19 (l := 8) (k := s) dc_Mod_enter_26 (by decide) rfl (by omega) (by decide) ?_
  refine sh_mp (fun w Z k => sh_aload_n dc_Mod_enter_27 rfl rfl k) ?_
  refine sh_mget 5 dc_Mod_enter_28 (by decide) fl_Mod_24 rfl rfl rfl rfl ?_
  refine sh_mp (fun w Z k => sh_iload_n dc_Mod_enter_31 rfl rfl k) ?_
  refine sh_mp (fun w Z k => sh_iload_n dc_Mod_enter_32 rfl rfl k) ?_
  refine sh_miast 5 (l := 6) (k := t) dc_Mod_enter_33 (by decide) rfl (by omega) (by decide) ?_
  refine sh_mp (fun w Z k => sh_aload_n dc_Mod_enter_34 rfl rfl k) ?_
  refine sh_mget 8 dc_Mod_enter_35 (by decide) fl_Mod_33 rfl rfl rfl rfl ?_
  refine sh_mp (fun w Z k => sh_iload_n dc_Mod_enter_38 rfl rfl k) ?_
  refine sh_mp (fun w Z k => sh_aload_n dc_Mod_enter_39 rfl rfl k) ?_
  refine sh_mget 11 dc_Mod_enter_40 (by decide) fl_Mod_94 rfl rfl rfl rfl ?_
  refine sh_mdast 8 (l := 6) (k := t) dc_Mod_enter_43 (by decide) rfl (by omega) (by decide) ?_
  refine sh_mp (fun w Z k => sh_aload_n dc_Mod_enter_44 rfl rfl k) ?_
  refine sh_mget 1 dc_Mod_enter_45 (by decide) fl_Mod_7 rfl rfl rfl rfl ?_
  refine sh_mp (fun w Z k => sh_iload_n dc_Mod_enter_48 rfl rfl k) ?_
  refine sh_mp (fun w Z k => sh_iconst (v := 1) dc_Mod_enter_49 (by decide) k) ?_
  refine sh_mzast 1 (l := 6) (k := t) dc_Mod_enter_50 (by decide) rfl (by omega) (by decide) (by decide) ?_
  exact sh_me (fun w => sh_return dc_Mod_enter_51 rfl (by decide) (by decide))
theorem mx_Mod_addWaited_1 {mq : Nat} {A : Nat → Nat} {I : sh_II} {D : sh_DD} {t : Nat} {s : Nat} (ht : t < 6) (hs : s < 8) (v0_17 : vf_n64 (FP.dsub (D 11 0) (D 8 t))) (v1_18 : vf_n64 (FP.dadd (D 20 s) (FP.dsub (D 11 0) (D 8 t)))) : sh_mM mq A md_Mod_addWaited [.ref mq, .int (nI t), .int (nI s)] I D none (sh_u2 I 21 s ((I 21 s) + 1)) (sh_u2 D 20 s (FP.dadd (D 20 s) (FP.dsub (D 11 0) (D 8 t)))) := by
  refine sh_mp (fun w Z k => sh_aload_n dc_Mod_addWaited_0 rfl rfl k) ?_
  refine sh_mget 20 dc_Mod_addWaited_1 (by decide) fl_Mod_66 rfl rfl rfl rfl ?_
  refine sh_mp (fun w Z k => sh_iload_n dc_Mod_addWaited_4 rfl rfl k) ?_
  refine sh_mp (fun w Z k => sh_dup2 dc_Mod_addWaited_5 rfl rfl k) ?_
  refine sh_mdald 20 (l := 8) (k := s) dc_Mod_addWaited_6 (by decide) rfl (by omega) (by decide) ?_
  refine sh_mp (fun w Z k => sh_aload_n dc_Mod_addWaited_7 rfl rfl k) ?_
  refine sh_mget 11 dc_Mod_addWaited_8 (by decide) fl_Mod_94 rfl rfl rfl rfl ?_
  refine sh_mp (fun w Z k => sh_aload_n dc_Mod_addWaited_11 rfl rfl k) ?_
  refine sh_mget 8 dc_Mod_addWaited_12 (by decide) fl_Mod_33 rfl rfl rfl rfl ?_
  refine sh_mp (fun w Z k => sh_iload_n dc_Mod_addWaited_15 rfl rfl k) ?_
  refine sh_mdald 8 (l := 6) (k := t) dc_Mod_addWaited_16 (by decide) rfl (by omega) (by decide) ?_
  refine sh_mp (fun w Z k => sh_dsub dc_Mod_addWaited_17 v0_17 k) ?_
  refine sh_mp (fun w Z k => sh_dadd dc_Mod_addWaited_18 v1_18 k) ?_
  refine sh_mdast 20 (l := 8) (k := s) dc_Mod_addWaited_19 (by decide) rfl (by omega) (by decide) ?_
  refine sh_mp (fun w Z k => sh_aload_n dc_Mod_addWaited_20 rfl rfl k) ?_
  refine sh_mget 21 dc_Mod_addWaited_21 (by decide) fl_Mod_69 rfl rfl rfl rfl ?_
  refine sh_mp (fun w Z k => sh_iload_n dc_Mod_addWaited_24 rfl rfl k) ?_
  refine sh_mp (fun w Z k => sh_dup2 dc_Mod_addWaited_25 rfl rfl k) ?_
  refine sh_miald 21 (l := 8) (k := s) dc_Mod_addWaited_26 (by decide) rfl (by omega) (by decide) ?_
  refine sh_mp (fun w Z k => sh_iconst (v := 1) dc_Mod_addWaited_27 (by decide) k) ?_
  refine sh_mp (fun w Z k => sh_iadd dc_Mod_addWaited_28 k) ?_
  refine sh_miast 21 (l := 8) (k := s) dc_Mod_addWaited_29 (by decide) rfl (by omega) (by decide) ?_
  exact sh_me (fun w => sh_return dc_Mod_addWaited_30 rfl (by decide) (by decide))
theorem mx_Mod_time_1 {mq : Nat} {A : Nat → Nat} {I : sh_II} {D : sh_DD}  : sh_mM mq A md_Mod_time [.ref mq] I D (some (.double (D 11 0))) (sh_u2 I 0 0 0) D := by
  refine sh_mp (fun w Z k => sh_aload_n dc_Mod_time_0 rfl rfl k) ?_
  refine sh_mp (fun w Z k => sh_iconst (v := 0) dc_Mod_time_1 (by decide) k) ?_
  refine sh_mput 0 dc_Mod_time_2 (by decide) fl_Mod_78 rfl ?_
  refine sh_mp (fun w Z k => sh_aload_n dc_Mod_time_5 rfl rfl k) ?_
  refine sh_mget 11 dc_Mod_time_6 (by decide) fl_Mod_94 rfl rfl rfl rfl ?_
  exact sh_me (fun w => sh_dreturn dc_Mod_time_9 rfl (by decide) (by decide))
theorem mb_Mod_canTake_p_0_1 {mq : Nat} {A : Nat → Nat} {I : sh_II} {D : sh_DD} {t : Nat} {s : Nat} {m : Int32} (ht : t < 6) (hs : s < 8) (c0_10 : (I 12 s) = 0) (c1_19 : 0 ≤ (I 13 s)) : sh_mW mq A md_Mod_canTake (0, [(0, .ref mq), (1, .int (nI t)), (2, .int (nI s)), (3, .int m)], []) I D 0 0 (some (.int 0)) I D := by
  refine sh_mp (fun w Z k => sh_aload_n dc_Mod_canTake_0 rfl rfl k) ?_
  refine sh_mget 12 dc_Mod_canTake_1 (by decide) fl_Mod_42 rfl rfl rfl rfl ?_
  refine sh_mp (fun w Z k => sh_iload_n dc_Mod_canTake_4 rfl rfl k) ?_
  refine sh_miald 12 (l := 8) (k := s) dc_Mod_canTake_5 (by decide) rfl (by omega) (by decide) ?_
  refine sh_mp (fun w Z k => sh_istore dc_Mod_canTake_6 (by decide) k) ?_
  refine sh_mp (fun w Z k => sh_iload dc_Mod_canTake_8 rfl k) ?_
  refine sh_mp (fun w Z k => sh_if_ne (tgt := 28) dc_Mod_canTake_10 (by decide) (fun z => absurd c0_10 z) (fun _ => k)) ?_
  refine sh_mp (fun w Z k => sh_aload_n dc_Mod_canTake_13 rfl rfl k) ?_
  refine sh_mget 13 dc_Mod_canTake_14 (by decide) fl_Mod_45 rfl rfl rfl rfl ?_
  refine sh_mp (fun w Z k => sh_iload_n dc_Mod_canTake_17 rfl rfl k) ?_
  refine sh_miald 13 (l := 8) (k := s) dc_Mod_canTake_18 (by decide) rfl (by omega) (by decide) ?_
  refine sh_mp (fun w Z k => sh_if_ge (tgt := 26) dc_Mod_canTake_19 (by decide) (fun _ => k) (fun z => absurd c1_19 z)) ?_
  refine sh_mp (fun w Z k => sh_iconst (v := 0) dc_Mod_canTake_26 (by decide) k) ?_
  exact sh_me (fun w => sh_ireturn dc_Mod_canTake_27 rfl rfl (by decide) (by decide))
theorem mb_Mod_canTake_p_0_2 {mq : Nat} {A : Nat → Nat} {I : sh_II} {D : sh_DD} {t : Nat} {s : Nat} {m : Int32} (ht : t < 6) (hs : s < 8) (c0_10 : (I 12 s) = 0) (c1_19 : ¬ 0 ≤ (I 13 s)) : sh_mW mq A md_Mod_canTake (0, [(0, .ref mq), (1, .int (nI t)), (2, .int (nI s)), (3, .int m)], []) I D 0 0 (some (.int 1)) I D := by
  refine sh_mp (fun w Z k => sh_aload_n dc_Mod_canTake_0 rfl rfl k) ?_
  refine sh_mget 12 dc_Mod_canTake_1 (by decide) fl_Mod_42 rfl rfl rfl rfl ?_
  refine sh_mp (fun w Z k => sh_iload_n dc_Mod_canTake_4 rfl rfl k) ?_
  refine sh_miald 12 (l := 8) (k := s) dc_Mod_canTake_5 (by decide) rfl (by omega) (by decide) ?_
  refine sh_mp (fun w Z k => sh_istore dc_Mod_canTake_6 (by decide) k) ?_
  refine sh_mp (fun w Z k => sh_iload dc_Mod_canTake_8 rfl k) ?_
  refine sh_mp (fun w Z k => sh_if_ne (tgt := 28) dc_Mod_canTake_10 (by decide) (fun z => absurd c0_10 z) (fun _ => k)) ?_
  refine sh_mp (fun w Z k => sh_aload_n dc_Mod_canTake_13 rfl rfl k) ?_
  refine sh_mget 13 dc_Mod_canTake_14 (by decide) fl_Mod_45 rfl rfl rfl rfl ?_
  refine sh_mp (fun w Z k => sh_iload_n dc_Mod_canTake_17 rfl rfl k) ?_
  refine sh_miald 13 (l := 8) (k := s) dc_Mod_canTake_18 (by decide) rfl (by omega) (by decide) ?_
  refine sh_mp (fun w Z k => sh_if_ge (tgt := 26) dc_Mod_canTake_19 (by decide) (fun z => absurd z c1_19) (fun _ => k)) ?_
  refine sh_mp (fun w Z k => sh_iconst (v := 1) dc_Mod_canTake_22 (by decide) k) ?_
  refine sh_mp (fun w Z k => sh_goto_ (tgt := 27) dc_Mod_canTake_23 (by decide) k) ?_
  exact sh_me (fun w => sh_ireturn dc_Mod_canTake_27 rfl rfl (by decide) (by decide))
theorem mb_Mod_canTake_p_0_3 {mq : Nat} {A : Nat → Nat} {I : sh_II} {D : sh_DD} {t : Nat} {s : Nat} {m : Int32} (ht : t < 6) (hs : s < 8) (c0_10 : ¬ (I 12 s) = 0) (c1_31 : (I 12 s) = 1) (c2_40 : (I 13 s) < 0) : sh_mW mq A md_Mod_canTake (0, [(0, .ref mq), (1, .int (nI t)), (2, .int (nI s)), (3, .int m)], []) I D 0 0 (some (.int 1)) I D := by
  refine sh_mp (fun w Z k => sh_aload_n dc_Mod_canTake_0 rfl rfl k) ?_
  refine sh_mget 12 dc_Mod_canTake_1 (by decide) fl_Mod_42 rfl rfl rfl rfl ?_
  refine sh_mp (fun w Z k => sh_iload_n dc_Mod_canTake_4 rfl rfl k) ?_
  refine sh_miald 12 (l := 8) (k := s) dc_Mod_canTake_5 (by decide) rfl (by omega) (by decide) ?_
  refine sh_mp (fun w Z k => sh_istore dc_Mod_canTake_6 (by decide) k) ?_
  refine sh_mp (fun w Z k => sh_iload dc_Mod_canTake_8 rfl k) ?_
  refine sh_mp (fun w Z k => sh_if_ne (tgt := 28) dc_Mod_canTake_10 (by decide) (fun _ => k) (fun z => absurd z c0_10)) ?_
  refine sh_mp (fun w Z k => sh_iload dc_Mod_canTake_28 rfl k) ?_
  refine sh_mp (fun w Z k => sh_iconst (v := 1) dc_Mod_canTake_30 (by decide) k) ?_
  refine sh_mp (fun w Z k => sh_icmp_ne (tgt := 59) dc_Mod_canTake_31 (by decide) (fun z => absurd c1_31 z) (fun _ => k)) ?_
  refine sh_mp (fun w Z k => sh_aload_n dc_Mod_canTake_34 rfl rfl k) ?_
  refine sh_mget 13 dc_Mod_canTake_35 (by decide) fl_Mod_45 rfl rfl rfl rfl ?_
  refine sh_mp (fun w Z k => sh_iload_n dc_Mod_canTake_38 rfl rfl k) ?_
  refine sh_miald 13 (l := 8) (k := s) dc_Mod_canTake_39 (by decide) rfl (by omega) (by decide) ?_
  refine sh_mp (fun w Z k => sh_if_lt (tgt := 53) dc_Mod_canTake_40 (by decide) (fun _ => k) (fun z => absurd c2_40 z)) ?_
  refine sh_mp (fun w Z k => sh_iconst (v := 1) dc_Mod_canTake_53 (by decide) k) ?_
  refine sh_mp (fun w Z k => sh_goto_ (tgt := 58) dc_Mod_canTake_54 (by decide) k) ?_
  exact sh_me (fun w => sh_ireturn dc_Mod_canTake_58 rfl rfl (by decide) (by decide))
theorem mb_Mod_canTake_p_0_4 {mq : Nat} {A : Nat → Nat} {I : sh_II} {D : sh_DD} {t : Nat} {s : Nat} {m : Int32} (ht : t < 6) (hs : s < 8) (c0_10 : ¬ (I 12 s) = 0) (c1_31 : (I 12 s) = 1) (c2_40 : ¬ (I 13 s) < 0) (c3_50 : (I 13 s) = (nI t)) : sh_mW mq A md_Mod_canTake (0, [(0, .ref mq), (1, .int (nI t)), (2, .int (nI s)), (3, .int m)], []) I D 0 0 (some (.int 1)) I D := by
  refine sh_mp (fun w Z k => sh_aload_n dc_Mod_canTake_0 rfl rfl k) ?_
  refine sh_mget 12 dc_Mod_canTake_1 (by decide) fl_Mod_42 rfl rfl rfl rfl ?_
  refine sh_mp (fun w Z k => sh_iload_n dc_Mod_canTake_4 rfl rfl k) ?_
  refine sh_miald 12 (l := 8) (k := s) dc_Mod_canTake_5 (by decide) rfl (by omega) (by decide) ?_
  refine sh_mp (fun w Z k => sh_istore dc_Mod_canTake_6 (by decide) k) ?_
  refine sh_mp (fun w Z k => sh_iload dc_Mod_canTake_8 rfl k) ?_
  refine sh_mp (fun w Z k => sh_if_ne (tgt := 28) dc_Mod_canTake_10 (by decide) (fun _ => k) (fun z => absurd z c0_10)) ?_
  refine sh_mp (fun w Z k => sh_iload dc_Mod_canTake_28 rfl k) ?_
  refine sh_mp (fun w Z k => sh_iconst (v := 1) dc_Mod_canTake_30 (by decide) k) ?_
  refine sh_mp (fun w Z k => sh_icmp_ne (tgt := 59) dc_Mod_canTake_31 (by decide) (fun z => absurd c1_31 z) (fun _ => k)) ?_
  refine sh_mp (fun w Z k => sh_aload_n dc_Mod_canTake_34 rfl rfl k) ?_
  refine sh_mget 13 dc_Mod_canTake_35 (by decide) fl_Mod_45 rfl rfl rfl rfl ?_
  refine sh_mp (fun w Z k => sh_iload_n dc_Mod_canTake_38 rfl rfl k) ?_
  refine sh_miald 13 (l := 8) (k := s) dc_Mod_canTake_39 (by decide) rfl (by omega) (by decide) ?_
  refine sh_mp (fun w Z k => sh_if_lt (tgt := 53) dc_Mod_canTake_40 (by decide) (fun z => absurd z c2_40) (fun _ => k)) ?_
  refine sh_mp (fun w Z k => sh_aload_n dc_Mod_canTake_43 rfl rfl k) ?_
  refine sh_mget 13 dc_Mod_canTake_44 (by decide) fl_Mod_45 rfl rfl rfl rfl ?_
  refine sh_mp (fun w Z k => sh_iload_n dc_Mod_canTake_47 rfl rfl k) ?_
  refine sh_miald 13 (l := 8) (k := s) dc_Mod_canTake_48 (by decide) rfl (by omega) (by decide) ?_
  refine sh_mp (fun w Z k => sh_iload_n dc_Mod_canTake_49 rfl rfl k) ?_
  refine sh_mp (fun w Z k => sh_icmp_ne (tgt := 57) dc_Mod_canTake_50 (by decide) (fun z => absurd c3_50 z) (fun _ => k)) ?_
  refine sh_mp (fun w Z k => sh_iconst (v := 1) dc_Mod_canTake_53 (by decide) k) ?_
  refine sh_mp (fun w Z k => sh_goto_ (tgt := 58) dc_Mod_canTake_54 (by decide) k) ?_
  exact sh_me (fun w => sh_ireturn dc_Mod_canTake_58 rfl rfl (by decide) (by decide))
theorem mb_Mod_canTake_p_0_5 {mq : Nat} {A : Nat → Nat} {I : sh_II} {D : sh_DD} {t : Nat} {s : Nat} {m : Int32} (ht : t < 6) (hs : s < 8) (c0_10 : ¬ (I 12 s) = 0) (c1_31 : (I 12 s) = 1) (c2_40 : ¬ (I 13 s) < 0) (c3_50 : ¬ (I 13 s) = (nI t)) : sh_mW mq A md_Mod_canTake (0, [(0, .ref mq), (1, .int (nI t)), (2, .int (nI s)), (3, .int m)], []) I D 0 0 (some (.int 0)) I D := by
  refine sh_mp (fun w Z k => sh_aload_n dc_Mod_canTake_0 rfl rfl k) ?_
  refine sh_mget 12 dc_Mod_canTake_1 (by decide) fl_Mod_42 rfl rfl rfl rfl ?_
  refine sh_mp (fun w Z k => sh_iload_n dc_Mod_canTake_4 rfl rfl k) ?_
  refine sh_miald 12 (l := 8) (k := s) dc_Mod_canTake_5 (by decide) rfl (by omega) (by decide) ?_
  refine sh_mp (fun w Z k => sh_istore dc_Mod_canTake_6 (by decide) k) ?_
  refine sh_mp (fun w Z k => sh_iload dc_Mod_canTake_8 rfl k) ?_
  refine sh_mp (fun w Z k => sh_if_ne (tgt := 28) dc_Mod_canTake_10 (by decide) (fun _ => k) (fun z => absurd z c0_10)) ?_
  refine sh_mp (fun w Z k => sh_iload dc_Mod_canTake_28 rfl k) ?_
  refine sh_mp (fun w Z k => sh_iconst (v := 1) dc_Mod_canTake_30 (by decide) k) ?_
  refine sh_mp (fun w Z k => sh_icmp_ne (tgt := 59) dc_Mod_canTake_31 (by decide) (fun z => absurd c1_31 z) (fun _ => k)) ?_
  refine sh_mp (fun w Z k => sh_aload_n dc_Mod_canTake_34 rfl rfl k) ?_
  refine sh_mget 13 dc_Mod_canTake_35 (by decide) fl_Mod_45 rfl rfl rfl rfl ?_
  refine sh_mp (fun w Z k => sh_iload_n dc_Mod_canTake_38 rfl rfl k) ?_
  refine sh_miald 13 (l := 8) (k := s) dc_Mod_canTake_39 (by decide) rfl (by omega) (by decide) ?_
  refine sh_mp (fun w Z k => sh_if_lt (tgt := 53) dc_Mod_canTake_40 (by decide) (fun z => absurd z c2_40) (fun _ => k)) ?_
  refine sh_mp (fun w Z k => sh_aload_n dc_Mod_canTake_43 rfl rfl k) ?_
  refine sh_mget 13 dc_Mod_canTake_44 (by decide) fl_Mod_45 rfl rfl rfl rfl ?_
  refine sh_mp (fun w Z k => sh_iload_n dc_Mod_canTake_47 rfl rfl k) ?_
  refine sh_miald 13 (l := 8) (k := s) dc_Mod_canTake_48 (by decide) rfl (by omega) (by decide) ?_
  refine sh_mp (fun w Z k => sh_iload_n dc_Mod_canTake_49 rfl rfl k) ?_
  refine sh_mp (fun w Z k => sh_icmp_ne (tgt := 57) dc_Mod_canTake_50 (by decide) (fun _ => k) (fun z => absurd z c3_50)) ?_
  refine sh_mp (fun w Z k => sh_iconst (v := 0) dc_Mod_canTake_57 (by decide) k) ?_
  exact sh_me (fun w => sh_ireturn dc_Mod_canTake_58 rfl rfl (by decide) (by decide))
theorem mb_Mod_canTake_p_0_6 {mq : Nat} {A : Nat → Nat} {I : sh_II} {D : sh_DD} {t : Nat} {s : Nat} {m : Int32} (ht : t < 6) (hs : s < 8) (c0_10 : ¬ (I 12 s) = 0) (c1_31 : ¬ (I 12 s) = 1) (c2_62 : (I 12 s) = 2) (c3_77 : (I 15 s) ≤ 0) : sh_mW mq A md_Mod_canTake (0, [(0, .ref mq), (1, .int (nI t)), (2, .int (nI s)), (3, .int m)], []) I D 0 0 (some (.int 0)) I D := by
  refine sh_mp (fun w Z k => sh_aload_n dc_Mod_canTake_0 rfl rfl k) ?_
  refine sh_mget 12 dc_Mod_canTake_1 (by decide) fl_Mod_42 rfl rfl rfl rfl ?_
  refine sh_mp (fun w Z k => sh_iload_n dc_Mod_canTake_4 rfl rfl k) ?_
  refine sh_miald 12 (l := 8) (k := s) dc_Mod_canTake_5 (by decide) rfl (by omega) (by decide) ?_
  refine sh_mp (fun w Z k => sh_istore dc_Mod_canTake_6 (by decide) k) ?_
  refine sh_mp (fun w Z k => sh_iload dc_Mod_canTake_8 rfl k) ?_
  refine sh_mp (fun w Z k => sh_if_ne (tgt := 28) dc_Mod_canTake_10 (by decide) (fun _ => k) (fun z => absurd z c0_10)) ?_
  refine sh_mp (fun w Z k => sh_iload dc_Mod_canTake_28 rfl k) ?_
  refine sh_mp (fun w Z k => sh_iconst (v := 1) dc_Mod_canTake_30 (by decide) k) ?_
  refine sh_mp (fun w Z k => sh_icmp_ne (tgt := 59) dc_Mod_canTake_31 (by decide) (fun _ => k) (fun z => absurd z c1_31)) ?_
  refine sh_mp (fun w Z k => sh_iload dc_Mod_canTake_59 rfl k) ?_
  refine sh_mp (fun w Z k => sh_iconst (v := 2) dc_Mod_canTake_61 (by decide) k) ?_
  refine sh_mp (fun w Z k => sh_icmp_eq (tgt := 71) dc_Mod_canTake_62 (by decide) (fun _ => k) (fun z => absurd c2_62 z)) ?_
  refine sh_mp (fun w Z k => sh_aload_n dc_Mod_canTake_71 rfl rfl k) ?_
  refine sh_mget 15 dc_Mod_canTake_72 (by decide) fl_Mod_51 rfl rfl rfl rfl ?_
  refine sh_mp (fun w Z k => sh_iload_n dc_Mod_canTake_75 rfl rfl k) ?_
  refine sh_miald 15 (l := 8) (k := s) dc_Mod_canTake_76 (by decide) rfl (by omega) (by decide) ?_
  refine sh_mp (fun w Z k => sh_if_le (tgt := 84) dc_Mod_canTake_77 (by decide) (fun _ => k) (fun z => absurd c3_77 z)) ?_
  refine sh_mp (fun w Z k => sh_iconst (v := 0) dc_Mod_canTake_84 (by decide) k) ?_
  exact sh_me (fun w => sh_ireturn dc_Mod_canTake_85 rfl rfl (by decide) (by decide))
theorem mb_Mod_canTake_p_0_7 {mq : Nat} {A : Nat → Nat} {I : sh_II} {D : sh_DD} {t : Nat} {s : Nat} {m : Int32} (ht : t < 6) (hs : s < 8) (c0_10 : ¬ (I 12 s) = 0) (c1_31 : ¬ (I 12 s) = 1) (c2_62 : (I 12 s) = 2) (c3_77 : ¬ (I 15 s) ≤ 0) : sh_mW mq A md_Mod_canTake (0, [(0, .ref mq), (1, .int (nI t)), (2, .int (nI s)), (3, .int m)], []) I D 0 0 (some (.int 1)) I D := by
  refine sh_mp (fun w Z k => sh_aload_n dc_Mod_canTake_0 rfl rfl k) ?_
  refine sh_mget 12 dc_Mod_canTake_1 (by decide) fl_Mod_42 rfl rfl rfl rfl ?_
  refine sh_mp (fun w Z k => sh_iload_n dc_Mod_canTake_4 rfl rfl k) ?_
  refine sh_miald 12 (l := 8) (k := s) dc_Mod_canTake_5 (by decide) rfl (by omega) (by decide) ?_
  refine sh_mp (fun w Z k => sh_istore dc_Mod_canTake_6 (by decide) k) ?_
  refine sh_mp (fun w Z k => sh_iload dc_Mod_canTake_8 rfl k) ?_
  refine sh_mp (fun w Z k => sh_if_ne (tgt := 28) dc_Mod_canTake_10 (by decide) (fun _ => k) (fun z => absurd z c0_10)) ?_
  refine sh_mp (fun w Z k => sh_iload dc_Mod_canTake_28 rfl k) ?_
  refine sh_mp (fun w Z k => sh_iconst (v := 1) dc_Mod_canTake_30 (by decide) k) ?_
  refine sh_mp (fun w Z k => sh_icmp_ne (tgt := 59) dc_Mod_canTake_31 (by decide) (fun _ => k) (fun z => absurd z c1_31)) ?_
  refine sh_mp (fun w Z k => sh_iload dc_Mod_canTake_59 rfl k) ?_
  refine sh_mp (fun w Z k => sh_iconst (v := 2) dc_Mod_canTake_61 (by decide) k) ?_
  refine sh_mp (fun w Z k => sh_icmp_eq (tgt := 71) dc_Mod_canTake_62 (by decide) (fun _ => k) (fun z => absurd c2_62 z)) ?_
  refine sh_mp (fun w Z k => sh_aload_n dc_Mod_canTake_71 rfl rfl k) ?_
  refine sh_mget 15 dc_Mod_canTake_72 (by decide) fl_Mod_51 rfl rfl rfl rfl ?_
  refine sh_mp (fun w Z k => sh_iload_n dc_Mod_canTake_75 rfl rfl k) ?_
  refine sh_miald 15 (l := 8) (k := s) dc_Mod_canTake_76 (by decide) rfl (by omega) (by decide) ?_
  refine sh_mp (fun w Z k => sh_if_le (tgt := 84) dc_Mod_canTake_77 (by decide) (fun z => absurd z c3_77) (fun _ => k)) ?_
  refine sh_mp (fun w Z k => sh_iconst (v := 1) dc_Mod_canTake_80 (by decide) k) ?_
  refine sh_mp (fun w Z k => sh_goto_ (tgt := 85) dc_Mod_canTake_81 (by decide) k) ?_
  exact sh_me (fun w => sh_ireturn dc_Mod_canTake_85 rfl rfl (by decide) (by decide))
theorem mb_Mod_canTake_p_0_8 {mq : Nat} {A : Nat → Nat} {I : sh_II} {D : sh_DD} {t : Nat} {s : Nat} {m : Int32} (ht : t < 6) (hs : s < 8) (c0_10 : ¬ (I 12 s) = 0) (c1_31 : ¬ (I 12 s) = 1) (c2_62 : ¬ (I 12 s) = 2) (c3_68 : (I 12 s) = 3) (c4_77 : (I 15 s) ≤ 0) : sh_mW mq A md_Mod_canTake (0, [(0, .ref mq), (1, .int (nI t)), (2, .int (nI s)), (3, .int m)], []) I D 0 0 (some (.int 0)) I D := by
  refine sh_mp (fun w Z k => sh_aload_n dc_Mod_canTake_0 rfl rfl k) ?_
  refine sh_mget 12 dc_Mod_canTake_1 (by decide) fl_Mod_42 rfl rfl rfl rfl ?_
  refine sh_mp (fun w Z k => sh_iload_n dc_Mod_canTake_4 rfl rfl k) ?_
  refine sh_miald 12 (l := 8) (k := s) dc_Mod_canTake_5 (by decide) rfl (by omega) (by decide) ?_
  refine sh_mp (fun w Z k => sh_istore dc_Mod_canTake_6 (by decide) k) ?_
  refine sh_mp (fun w Z k => sh_iload dc_Mod_canTake_8 rfl k) ?_
  refine sh_mp (fun w Z k => sh_if_ne (tgt := 28) dc_Mod_canTake_10 (by decide) (fun _ => k) (fun z => absurd z c0_10)) ?_
  refine sh_mp (fun w Z k => sh_iload dc_Mod_canTake_28 rfl k) ?_
  refine sh_mp (fun w Z k => sh_iconst (v := 1) dc_Mod_canTake_30 (by decide) k) ?_
  refine sh_mp (fun w Z k => sh_icmp_ne (tgt := 59) dc_Mod_canTake_31 (by decide) (fun _ => k) (fun z => absurd z c1_31)) ?_
  refine sh_mp (fun w Z k => sh_iload dc_Mod_canTake_59 rfl k) ?_
  refine sh_mp (fun w Z k => sh_iconst (v := 2) dc_Mod_canTake_61 (by decide) k) ?_
  refine sh_mp (fun w Z k => sh_icmp_eq (tgt := 71) dc_Mod_canTake_62 (by decide) (fun z => absurd z c2_62) (fun _ => k)) ?_
  refine sh_mp (fun w Z k => sh_iload dc_Mod_canTake_65 rfl k) ?_
  refine sh_mp (fun w Z k => sh_iconst (v := 3) dc_Mod_canTake_67 (by decide) k) ?_
  refine sh_mp (fun w Z k => sh_icmp_ne (tgt := 86) dc_Mod_canTake_68 (by decide) (fun z => absurd c3_68 z) (fun _ => k)) ?_
  refine sh_mp (fun w Z k => sh_aload_n dc_Mod_canTake_71 rfl rfl k) ?_
  refine sh_mget 15 dc_Mod_canTake_72 (by decide) fl_Mod_51 rfl rfl rfl rfl ?_
  refine sh_mp (fun w Z k => sh_iload_n dc_Mod_canTake_75 rfl rfl k) ?_
  refine sh_miald 15 (l := 8) (k := s) dc_Mod_canTake_76 (by decide) rfl (by omega) (by decide) ?_
  refine sh_mp (fun w Z k => sh_if_le (tgt := 84) dc_Mod_canTake_77 (by decide) (fun _ => k) (fun z => absurd c4_77 z)) ?_
  refine sh_mp (fun w Z k => sh_iconst (v := 0) dc_Mod_canTake_84 (by decide) k) ?_
  exact sh_me (fun w => sh_ireturn dc_Mod_canTake_85 rfl rfl (by decide) (by decide))
theorem mb_Mod_canTake_p_0_9 {mq : Nat} {A : Nat → Nat} {I : sh_II} {D : sh_DD} {t : Nat} {s : Nat} {m : Int32} (ht : t < 6) (hs : s < 8) (c0_10 : ¬ (I 12 s) = 0) (c1_31 : ¬ (I 12 s) = 1) (c2_62 : ¬ (I 12 s) = 2) (c3_68 : (I 12 s) = 3) (c4_77 : ¬ (I 15 s) ≤ 0) : sh_mW mq A md_Mod_canTake (0, [(0, .ref mq), (1, .int (nI t)), (2, .int (nI s)), (3, .int m)], []) I D 0 0 (some (.int 1)) I D := by
  refine sh_mp (fun w Z k => sh_aload_n dc_Mod_canTake_0 rfl rfl k) ?_
  refine sh_mget 12 dc_Mod_canTake_1 (by decide) fl_Mod_42 rfl rfl rfl rfl ?_
  refine sh_mp (fun w Z k => sh_iload_n dc_Mod_canTake_4 rfl rfl k) ?_
  refine sh_miald 12 (l := 8) (k := s) dc_Mod_canTake_5 (by decide) rfl (by omega) (by decide) ?_
  refine sh_mp (fun w Z k => sh_istore dc_Mod_canTake_6 (by decide) k) ?_
  refine sh_mp (fun w Z k => sh_iload dc_Mod_canTake_8 rfl k) ?_
  refine sh_mp (fun w Z k => sh_if_ne (tgt := 28) dc_Mod_canTake_10 (by decide) (fun _ => k) (fun z => absurd z c0_10)) ?_
  refine sh_mp (fun w Z k => sh_iload dc_Mod_canTake_28 rfl k) ?_
  refine sh_mp (fun w Z k => sh_iconst (v := 1) dc_Mod_canTake_30 (by decide) k) ?_
  refine sh_mp (fun w Z k => sh_icmp_ne (tgt := 59) dc_Mod_canTake_31 (by decide) (fun _ => k) (fun z => absurd z c1_31)) ?_
  refine sh_mp (fun w Z k => sh_iload dc_Mod_canTake_59 rfl k) ?_
  refine sh_mp (fun w Z k => sh_iconst (v := 2) dc_Mod_canTake_61 (by decide) k) ?_
  refine sh_mp (fun w Z k => sh_icmp_eq (tgt := 71) dc_Mod_canTake_62 (by decide) (fun z => absurd z c2_62) (fun _ => k)) ?_
  refine sh_mp (fun w Z k => sh_iload dc_Mod_canTake_65 rfl k) ?_
  refine sh_mp (fun w Z k => sh_iconst (v := 3) dc_Mod_canTake_67 (by decide) k) ?_
  refine sh_mp (fun w Z k => sh_icmp_ne (tgt := 86) dc_Mod_canTake_68 (by decide) (fun z => absurd c3_68 z) (fun _ => k)) ?_
  refine sh_mp (fun w Z k => sh_aload_n dc_Mod_canTake_71 rfl rfl k) ?_
  refine sh_mget 15 dc_Mod_canTake_72 (by decide) fl_Mod_51 rfl rfl rfl rfl ?_
  refine sh_mp (fun w Z k => sh_iload_n dc_Mod_canTake_75 rfl rfl k) ?_
  refine sh_miald 15 (l := 8) (k := s) dc_Mod_canTake_76 (by decide) rfl (by omega) (by decide) ?_
  refine sh_mp (fun w Z k => sh_if_le (tgt := 84) dc_Mod_canTake_77 (by decide) (fun z => absurd z c4_77) (fun _ => k)) ?_
  refine sh_mp (fun w Z k => sh_iconst (v := 1) dc_Mod_canTake_80 (by decide) k) ?_
  refine sh_mp (fun w Z k => sh_goto_ (tgt := 85) dc_Mod_canTake_81 (by decide) k) ?_
  exact sh_me (fun w => sh_ireturn dc_Mod_canTake_85 rfl rfl (by decide) (by decide))
theorem mb_Mod_canTake_p_0_10 {mq : Nat} {A : Nat → Nat} {I : sh_II} {D : sh_DD} {t : Nat} {s : Nat} {m : Int32} (ht : t < 6) (hs : s < 8) (c0_10 : ¬ (I 12 s) = 0) (c1_31 : ¬ (I 12 s) = 1) (c2_62 : ¬ (I 12 s) = 2) (c3_68 : ¬ (I 12 s) = 3) (c4_89 : (I 12 s) = 4) (c5_98 : (I 15 s) = 0) : sh_mW mq A md_Mod_canTake (0, [(0, .ref mq), (1, .int (nI t)), (2, .int (nI s)), (3, .int m)], []) I D 0 0 (some (.int 1)) I D := by
  refine sh_mp (fun w Z k => sh_aload_n dc_Mod_canTake_0 rfl rfl k) ?_
  refine sh_mget 12 dc_Mod_canTake_1 (by decide) fl_Mod_42 rfl rfl rfl rfl ?_
  refine sh_mp (fun w Z k => sh_iload_n dc_Mod_canTake_4 rfl rfl k) ?_
  refine sh_miald 12 (l := 8) (k := s) dc_Mod_canTake_5 (by decide) rfl (by omega) (by decide) ?_
  refine sh_mp (fun w Z k => sh_istore dc_Mod_canTake_6 (by decide) k) ?_
  refine sh_mp (fun w Z k => sh_iload dc_Mod_canTake_8 rfl k) ?_
  refine sh_mp (fun w Z k => sh_if_ne (tgt := 28) dc_Mod_canTake_10 (by decide) (fun _ => k) (fun z => absurd z c0_10)) ?_
  refine sh_mp (fun w Z k => sh_iload dc_Mod_canTake_28 rfl k) ?_
  refine sh_mp (fun w Z k => sh_iconst (v := 1) dc_Mod_canTake_30 (by decide) k) ?_
  refine sh_mp (fun w Z k => sh_icmp_ne (tgt := 59) dc_Mod_canTake_31 (by decide) (fun _ => k) (fun z => absurd z c1_31)) ?_
  refine sh_mp (fun w Z k => sh_iload dc_Mod_canTake_59 rfl k) ?_
  refine sh_mp (fun w Z k => sh_iconst (v := 2) dc_Mod_canTake_61 (by decide) k) ?_
  refine sh_mp (fun w Z k => sh_icmp_eq (tgt := 71) dc_Mod_canTake_62 (by decide) (fun z => absurd z c2_62) (fun _ => k)) ?_
  refine sh_mp (fun w Z k => sh_iload dc_Mod_canTake_65 rfl k) ?_
  refine sh_mp (fun w Z k => sh_iconst (v := 3) dc_Mod_canTake_67 (by decide) k) ?_
  refine sh_mp (fun w Z k => sh_icmp_ne (tgt := 86) dc_Mod_canTake_68 (by decide) (fun _ => k) (fun z => absurd z c3_68)) ?_
  refine sh_mp (fun w Z k => sh_iload dc_Mod_canTake_86 rfl k) ?_
  refine sh_mp (fun w Z k => sh_iconst (v := 4) dc_Mod_canTake_88 (by decide) k) ?_
  refine sh_mp (fun w Z k => sh_icmp_ne (tgt := 107) dc_Mod_canTake_89 (by decide) (fun z => absurd c4_89 z) (fun _ => k)) ?_
  refine sh_mp (fun w Z k => sh_aload_n dc_Mod_canTake_92 rfl rfl k) ?_
  refine sh_mget 15 dc_Mod_canTake_93 (by decide) fl_Mod_51 rfl rfl rfl rfl ?_
  refine sh_mp (fun w Z k => sh_iload_n dc_Mod_canTake_96 rfl rfl k) ?_
  refine sh_miald 15 (l := 8) (k := s) dc_Mod_canTake_97 (by decide) rfl (by omega) (by decide) ?_
  refine sh_mp (fun w Z k => sh_if_ne (tgt := 105) dc_Mod_canTake_98 (by decide) (fun z => absurd c5_98 z) (fun _ => k)) ?_
  refine sh_mp (fun w Z k => sh_iconst (v := 1) dc_Mod_canTake_101 (by decide) k) ?_
  refine sh_mp (fun w Z k => sh_goto_ (tgt := 106) dc_Mod_canTake_102 (by decide) k) ?_
  exact sh_me (fun w => sh_ireturn dc_Mod_canTake_106 rfl rfl (by decide) (by decide))
theorem mb_Mod_canTake_p_0_11 {mq : Nat} {A : Nat → Nat} {I : sh_II} {D : sh_DD} {t : Nat} {s : Nat} {m : Int32} (ht : t < 6) (hs : s < 8) (c0_10 : ¬ (I 12 s) = 0) (c1_31 : ¬ (I 12 s) = 1) (c2_62 : ¬ (I 12 s) = 2) (c3_68 : ¬ (I 12 s) = 3) (c4_89 : (I 12 s) = 4) (c5_98 : ¬ (I 15 s) = 0) : sh_mW mq A md_Mod_canTake (0, [(0, .ref mq), (1, .int (nI t)), (2, .int (nI s)), (3, .int m)], []) I D 0 0 (some (.int 0)) I D := by
  refine sh_mp (fun w Z k => sh_aload_n dc_Mod_canTake_0 rfl rfl k) ?_
  refine sh_mget 12 dc_Mod_canTake_1 (by decide) fl_Mod_42 rfl rfl rfl rfl ?_
  refine sh_mp (fun w Z k => sh_iload_n dc_Mod_canTake_4 rfl rfl k) ?_
  refine sh_miald 12 (l := 8) (k := s) dc_Mod_canTake_5 (by decide) rfl (by omega) (by decide) ?_
  refine sh_mp (fun w Z k => sh_istore dc_Mod_canTake_6 (by decide) k) ?_
  refine sh_mp (fun w Z k => sh_iload dc_Mod_canTake_8 rfl k) ?_
  refine sh_mp (fun w Z k => sh_if_ne (tgt := 28) dc_Mod_canTake_10 (by decide) (fun _ => k) (fun z => absurd z c0_10)) ?_
  refine sh_mp (fun w Z k => sh_iload dc_Mod_canTake_28 rfl k) ?_
  refine sh_mp (fun w Z k => sh_iconst (v := 1) dc_Mod_canTake_30 (by decide) k) ?_
  refine sh_mp (fun w Z k => sh_icmp_ne (tgt := 59) dc_Mod_canTake_31 (by decide) (fun _ => k) (fun z => absurd z c1_31)) ?_
  refine sh_mp (fun w Z k => sh_iload dc_Mod_canTake_59 rfl k) ?_
  refine sh_mp (fun w Z k => sh_iconst (v := 2) dc_Mod_canTake_61 (by decide) k) ?_
  refine sh_mp (fun w Z k => sh_icmp_eq (tgt := 71) dc_Mod_canTake_62 (by decide) (fun z => absurd z c2_62) (fun _ => k)) ?_
  refine sh_mp (fun w Z k => sh_iload dc_Mod_canTake_65 rfl k) ?_
  refine sh_mp (fun w Z k => sh_iconst (v := 3) dc_Mod_canTake_67 (by decide) k) ?_
  refine sh_mp (fun w Z k => sh_icmp_ne (tgt := 86) dc_Mod_canTake_68 (by decide) (fun _ => k) (fun z => absurd z c3_68)) ?_
  refine sh_mp (fun w Z k => sh_iload dc_Mod_canTake_86 rfl k) ?_
  refine sh_mp (fun w Z k => sh_iconst (v := 4) dc_Mod_canTake_88 (by decide) k) ?_
  refine sh_mp (fun w Z k => sh_icmp_ne (tgt := 107) dc_Mod_canTake_89 (by decide) (fun z => absurd c4_89 z) (fun _ => k)) ?_
  refine sh_mp (fun w Z k => sh_aload_n dc_Mod_canTake_92 rfl rfl k) ?_
  refine sh_mget 15 dc_Mod_canTake_93 (by decide) fl_Mod_51 rfl rfl rfl rfl ?_
  refine sh_mp (fun w Z k => sh_iload_n dc_Mod_canTake_96 rfl rfl k) ?_
  refine sh_miald 15 (l := 8) (k := s) dc_Mod_canTake_97 (by decide) rfl (by omega) (by decide) ?_
  refine sh_mp (fun w Z k => sh_if_ne (tgt := 105) dc_Mod_canTake_98 (by decide) (fun _ => k) (fun z => absurd z c5_98)) ?_
  refine sh_mp (fun w Z k => sh_iconst (v := 0) dc_Mod_canTake_105 (by decide) k) ?_
  exact sh_me (fun w => sh_ireturn dc_Mod_canTake_106 rfl rfl (by decide) (by decide))
theorem mb_Mod_canTake_p_0_12 {mq : Nat} {A : Nat → Nat} {I I9 : sh_II} {D D9 : sh_DD} {v9 : Option Value} {t : Nat} {s : Nat} {m : Int32} (ht : t < 6) (hs : s < 8) (c0_10 : ¬ (I 12 s) = 0) (c1_31 : ¬ (I 12 s) = 1) (c2_62 : ¬ (I 12 s) = 2) (c3_68 : ¬ (I 12 s) = 3) (c4_89 : ¬ (I 12 s) = 4) (c5_113 : (I 13 s) < 0) (k9 : sh_mW mq A md_Mod_canTake (131, [(0, .ref mq), (1, .int (nI t)), (2, .int (nI s)), (3, .int m), (5, .int 0)], []) I D 0 0 v9 I9 D9) : sh_mW mq A md_Mod_canTake (0, [(0, .ref mq), (1, .int (nI t)), (2, .int (nI s)), (3, .int m)], []) I D 0 0 v9 I9 D9 := by
  refine sh_mp (fun w Z k => sh_aload_n dc_Mod_canTake_0 rfl rfl k) ?_
  refine sh_mget 12 dc_Mod_canTake_1 (by decide) fl_Mod_42 rfl rfl rfl rfl ?_
  refine sh_mp (fun w Z k => sh_iload_n dc_Mod_canTake_4 rfl rfl k) ?_
  refine sh_miald 12 (l := 8) (k := s) dc_Mod_canTake_5 (by decide) rfl (by omega) (by decide) ?_
  refine sh_mp (fun w Z k => sh_istore dc_Mod_canTake_6 (by decide) k) ?_
  refine sh_mp (fun w Z k => sh_iload dc_Mod_canTake_8 rfl k) ?_
  refine sh_mp (fun w Z k => sh_if_ne (tgt := 28) dc_Mod_canTake_10 (by decide) (fun _ => k) (fun z => absurd z c0_10)) ?_
  refine sh_mp (fun w Z k => sh_iload dc_Mod_canTake_28 rfl k) ?_
  refine sh_mp (fun w Z k => sh_iconst (v := 1) dc_Mod_canTake_30 (by decide) k) ?_
  refine sh_mp (fun w Z k => sh_icmp_ne (tgt := 59) dc_Mod_canTake_31 (by decide) (fun _ => k) (fun z => absurd z c1_31)) ?_
  refine sh_mp (fun w Z k => sh_iload dc_Mod_canTake_59 rfl k) ?_
  refine sh_mp (fun w Z k => sh_iconst (v := 2) dc_Mod_canTake_61 (by decide) k) ?_
  refine sh_mp (fun w Z k => sh_icmp_eq (tgt := 71) dc_Mod_canTake_62 (by decide) (fun z => absurd z c2_62) (fun _ => k)) ?_
  refine sh_mp (fun w Z k => sh_iload dc_Mod_canTake_65 rfl k) ?_
  refine sh_mp (fun w Z k => sh_iconst (v := 3) dc_Mod_canTake_67 (by decide) k) ?_
  refine sh_mp (fun w Z k => sh_icmp_ne (tgt := 86) dc_Mod_canTake_68 (by decide) (fun _ => k) (fun z => absurd z c3_68)) ?_
  refine sh_mp (fun w Z k => sh_iload dc_Mod_canTake_86 rfl k) ?_
  refine sh_mp (fun w Z k => sh_iconst (v := 4) dc_Mod_canTake_88 (by decide) k) ?_
  refine sh_mp (fun w Z k => sh_icmp_ne (tgt := 107) dc_Mod_canTake_89 (by decide) (fun _ => k) (fun z => absurd z c4_89)) ?_
  refine sh_mp (fun w Z k => sh_aload_n dc_Mod_canTake_107 rfl rfl k) ?_
  refine sh_mget 13 dc_Mod_canTake_108 (by decide) fl_Mod_45 rfl rfl rfl rfl ?_
  refine sh_mp (fun w Z k => sh_iload_n dc_Mod_canTake_111 rfl rfl k) ?_
  refine sh_miald 13 (l := 8) (k := s) dc_Mod_canTake_112 (by decide) rfl (by omega) (by decide) ?_
  refine sh_mp (fun w Z k => sh_if_lt (tgt := 128) dc_Mod_canTake_113 (by decide) (fun _ => k) (fun z => absurd c5_113 z)) ?_
  refine sh_mp (fun w Z k => sh_iconst (v := 0) dc_Mod_canTake_128 (by decide) k) ?_
  refine sh_mp (fun w Z k => sh_istore dc_Mod_canTake_129 (by decide) k) ?_
  refine sh_mlv [2, 3, 4, 5, 0] rfl ?_
  exact k9
theorem mb_Mod_canTake_p_0_13 {mq : Nat} {A : Nat → Nat} {I I9 : sh_II} {D D9 : sh_DD} {v9 : Option Value} {t : Nat} {s : Nat} {m : Int32} (ht : t < 6) (hs : s < 8) (c0_10 : ¬ (I 12 s) = 0) (c1_31 : ¬ (I 12 s) = 1) (c2_62 : ¬ (I 12 s) = 2) (c3_68 : ¬ (I 12 s) = 3) (c4_89 : ¬ (I 12 s) = 4) (c5_113 : ¬ (I 13 s) < 0) (c6_123 : (I 13 s) = (nI t)) (k9 : sh_mW mq A md_Mod_canTake (131, [(0, .ref mq), (1, .int (nI t)), (2, .int (nI s)), (3, .int m), (5, .int 0)], []) I D 0 0 v9 I9 D9) : sh_mW mq A md_Mod_canTake (0, [(0, .ref mq), (1, .int (nI t)), (2, .int (nI s)), (3, .int m)], []) I D 0 0 v9 I9 D9 := by
  refine sh_mp (fun w Z k => sh_aload_n dc_Mod_canTake_0 rfl rfl k) ?_
  refine sh_mget 12 dc_Mod_canTake_1 (by decide) fl_Mod_42 rfl rfl rfl rfl ?_
  refine sh_mp (fun w Z k => sh_iload_n dc_Mod_canTake_4 rfl rfl k) ?_
  refine sh_miald 12 (l := 8) (k := s) dc_Mod_canTake_5 (by decide) rfl (by omega) (by decide) ?_
  refine sh_mp (fun w Z k => sh_istore dc_Mod_canTake_6 (by decide) k) ?_
  refine sh_mp (fun w Z k => sh_iload dc_Mod_canTake_8 rfl k) ?_
  refine sh_mp (fun w Z k => sh_if_ne (tgt := 28) dc_Mod_canTake_10 (by decide) (fun _ => k) (fun z => absurd z c0_10)) ?_
  refine sh_mp (fun w Z k => sh_iload dc_Mod_canTake_28 rfl k) ?_
  refine sh_mp (fun w Z k => sh_iconst (v := 1) dc_Mod_canTake_30 (by decide) k) ?_
  refine sh_mp (fun w Z k => sh_icmp_ne (tgt := 59) dc_Mod_canTake_31 (by decide) (fun _ => k) (fun z => absurd z c1_31)) ?_
  refine sh_mp (fun w Z k => sh_iload dc_Mod_canTake_59 rfl k) ?_
  refine sh_mp (fun w Z k => sh_iconst (v := 2) dc_Mod_canTake_61 (by decide) k) ?_
  refine sh_mp (fun w Z k => sh_icmp_eq (tgt := 71) dc_Mod_canTake_62 (by decide) (fun z => absurd z c2_62) (fun _ => k)) ?_
  refine sh_mp (fun w Z k => sh_iload dc_Mod_canTake_65 rfl k) ?_
  refine sh_mp (fun w Z k => sh_iconst (v := 3) dc_Mod_canTake_67 (by decide) k) ?_
  refine sh_mp (fun w Z k => sh_icmp_ne (tgt := 86) dc_Mod_canTake_68 (by decide) (fun _ => k) (fun z => absurd z c3_68)) ?_
  refine sh_mp (fun w Z k => sh_iload dc_Mod_canTake_86 rfl k) ?_
  refine sh_mp (fun w Z k => sh_iconst (v := 4) dc_Mod_canTake_88 (by decide) k) ?_
  refine sh_mp (fun w Z k => sh_icmp_ne (tgt := 107) dc_Mod_canTake_89 (by decide) (fun _ => k) (fun z => absurd z c4_89)) ?_
  refine sh_mp (fun w Z k => sh_aload_n dc_Mod_canTake_107 rfl rfl k) ?_
  refine sh_mget 13 dc_Mod_canTake_108 (by decide) fl_Mod_45 rfl rfl rfl rfl ?_
  refine sh_mp (fun w Z k => sh_iload_n dc_Mod_canTake_111 rfl rfl k) ?_
  refine sh_miald 13 (l := 8) (k := s) dc_Mod_canTake_112 (by decide) rfl (by omega) (by decide) ?_
  refine sh_mp (fun w Z k => sh_if_lt (tgt := 128) dc_Mod_canTake_113 (by decide) (fun z => absurd z c5_113) (fun _ => k)) ?_
  refine sh_mp (fun w Z k => sh_aload_n dc_Mod_canTake_116 rfl rfl k) ?_
  refine sh_mget 13 dc_Mod_canTake_117 (by decide) fl_Mod_45 rfl rfl rfl rfl ?_
  refine sh_mp (fun w Z k => sh_iload_n dc_Mod_canTake_120 rfl rfl k) ?_
  refine sh_miald 13 (l := 8) (k := s) dc_Mod_canTake_121 (by decide) rfl (by omega) (by decide) ?_
  refine sh_mp (fun w Z k => sh_iload_n dc_Mod_canTake_122 rfl rfl k) ?_
  refine sh_mp (fun w Z k => sh_icmp_eq (tgt := 128) dc_Mod_canTake_123 (by decide) (fun _ => k) (fun z => absurd c6_123 z)) ?_
  refine sh_mp (fun w Z k => sh_iconst (v := 0) dc_Mod_canTake_128 (by decide) k) ?_
  refine sh_mp (fun w Z k => sh_istore dc_Mod_canTake_129 (by decide) k) ?_
  refine sh_mlv [2, 3, 4, 5, 0] rfl ?_
  exact k9
theorem mb_Mod_canTake_p_0_14 {mq : Nat} {A : Nat → Nat} {I : sh_II} {D : sh_DD} {t : Nat} {s : Nat} {m : Int32} (ht : t < 6) (hs : s < 8) (c0_10 : ¬ (I 12 s) = 0) (c1_31 : ¬ (I 12 s) = 1) (c2_62 : ¬ (I 12 s) = 2) (c3_68 : ¬ (I 12 s) = 3) (c4_89 : ¬ (I 12 s) = 4) (c5_113 : ¬ (I 13 s) < 0) (c6_123 : ¬ (I 13 s) = (nI t)) : sh_mW mq A md_Mod_canTake (0, [(0, .ref mq), (1, .int (nI t)), (2, .int (nI s)), (3, .int m)], []) I D 0 0 (some (.int 0)) I D := by
  refine sh_mp (fun w Z k => sh_aload_n dc_Mod_canTake_0 rfl rfl k) ?_
  refine sh_mget 12 dc_Mod_canTake_1 (by decide) fl_Mod_42 rfl rfl rfl rfl ?_
  refine sh_mp (fun w Z k => sh_iload_n dc_Mod_canTake_4 rfl rfl k) ?_
  refine sh_miald 12 (l := 8) (k := s) dc_Mod_canTake_5 (by decide) rfl (by omega) (by decide) ?_
  refine sh_mp (fun w Z k => sh_istore dc_Mod_canTake_6 (by decide) k) ?_
  refine sh_mp (fun w Z k => sh_iload dc_Mod_canTake_8 rfl k) ?_
  refine sh_mp (fun w Z k => sh_if_ne (tgt := 28) dc_Mod_canTake_10 (by decide) (fun _ => k) (fun z => absurd z c0_10)) ?_
  refine sh_mp (fun w Z k => sh_iload dc_Mod_canTake_28 rfl k) ?_
  refine sh_mp (fun w Z k => sh_iconst (v := 1) dc_Mod_canTake_30 (by decide) k) ?_
  refine sh_mp (fun w Z k => sh_icmp_ne (tgt := 59) dc_Mod_canTake_31 (by decide) (fun _ => k) (fun z => absurd z c1_31)) ?_
  refine sh_mp (fun w Z k => sh_iload dc_Mod_canTake_59 rfl k) ?_
  refine sh_mp (fun w Z k => sh_iconst (v := 2) dc_Mod_canTake_61 (by decide) k) ?_
  refine sh_mp (fun w Z k => sh_icmp_eq (tgt := 71) dc_Mod_canTake_62 (by decide) (fun z => absurd z c2_62) (fun _ => k)) ?_
  refine sh_mp (fun w Z k => sh_iload dc_Mod_canTake_65 rfl k) ?_
  refine sh_mp (fun w Z k => sh_iconst (v := 3) dc_Mod_canTake_67 (by decide) k) ?_
  refine sh_mp (fun w Z k => sh_icmp_ne (tgt := 86) dc_Mod_canTake_68 (by decide) (fun _ => k) (fun z => absurd z c3_68)) ?_
  refine sh_mp (fun w Z k => sh_iload dc_Mod_canTake_86 rfl k) ?_
  refine sh_mp (fun w Z k => sh_iconst (v := 4) dc_Mod_canTake_88 (by decide) k) ?_
  refine sh_mp (fun w Z k => sh_icmp_ne (tgt := 107) dc_Mod_canTake_89 (by decide) (fun _ => k) (fun z => absurd z c4_89)) ?_
  refine sh_mp (fun w Z k => sh_aload_n dc_Mod_canTake_107 rfl rfl k) ?_
  refine sh_mget 13 dc_Mod_canTake_108 (by decide) fl_Mod_45 rfl rfl rfl rfl ?_
  refine sh_mp (fun w Z k => sh_iload_n dc_Mod_canTake_111 rfl rfl k) ?_
  refine sh_miald 13 (l := 8) (k := s) dc_Mod_canTake_112 (by decide) rfl (by omega) (by decide) ?_
  refine sh_mp (fun w Z k => sh_if_lt (tgt := 128) dc_Mod_canTake_113 (by decide) (fun z => absurd z c5_113) (fun _ => k)) ?_
  refine sh_mp (fun w Z k => sh_aload_n dc_Mod_canTake_116 rfl rfl k) ?_
  refine sh_mget 13 dc_Mod_canTake_117 (by decide) fl_Mod_45 rfl rfl rfl rfl ?_
  refine sh_mp (fun w Z k => sh_iload_n dc_Mod_canTake_120 rfl rfl k) ?_
  refine sh_miald 13 (l := 8) (k := s) dc_Mod_canTake_121 (by decide) rfl (by omega) (by decide) ?_
  refine sh_mp (fun w Z k => sh_iload_n dc_Mod_canTake_122 rfl rfl k) ?_
  refine sh_mp (fun w Z k => sh_icmp_eq (tgt := 128) dc_Mod_canTake_123 (by decide) (fun z => absurd z c6_123) (fun _ => k)) ?_
  refine sh_mp (fun w Z k => sh_iconst (v := 0) dc_Mod_canTake_126 (by decide) k) ?_
  exact sh_me (fun w => sh_ireturn dc_Mod_canTake_127 rfl rfl (by decide) (by decide))
theorem mb_Mod_canTake_e_131_1 {mq : Nat} {A : Nat → Nat} {I : sh_II} {D : sh_DD} {t : Nat} {s : Nat} {m : Int32} {i : Nat} (ht : t < 6) (hs : s < 8) (hx : 6 ≤ (nI i)) (c0_133 : m = 1) : sh_mW mq A md_Mod_canTake (131, [(0, .ref mq), (1, .int (nI t)), (2, .int (nI s)), (3, .int m), (5, .int (nI i))], []) I D 0 0 (some (.int 1)) I D := by
  refine sh_mp (fun w Z k => sh_iload_n dc_Mod_canTake_131 rfl rfl k) ?_
  refine sh_mp (fun w Z k => sh_iconst (v := 1) dc_Mod_canTake_132 (by decide) k) ?_
  refine sh_mp (fun w Z k => sh_icmp_ne (tgt := 172) dc_Mod_canTake_133 (by decide) (fun z => absurd c0_133 z) (fun _ => k)) ?_
  refine sh_mp (fun w Z k => sh_iload dc_Mod_canTake_136 rfl k) ?_
  refine sh_mp (fun w Z k => sh_bipush (v := 6) dc_Mod_canTake_138 (by decide) k) ?_
  refine sh_mp (fun w Z k => sh_icmp_ge (tgt := 172) dc_Mod_canTake_140 (by decide) (fun _ => k) (fun z => absurd hx z)) ?_
  refine sh_mp (fun w Z k => sh_iconst (v := 1) dc_Mod_canTake_172 (by decide) k) ?_
  exact sh_me (fun w => sh_ireturn dc_Mod_canTake_173 rfl rfl (by decide) (by decide))
theorem mb_Mod_canTake_e_131_2 {mq : Nat} {A : Nat → Nat} {I : sh_II} {D : sh_DD} {t : Nat} {s : Nat} {m : Int32} {i : Nat} (ht : t < 6) (hs : s < 8) (hx : 6 ≤ (nI i)) (c0_133 : ¬ m = 1) : sh_mW mq A md_Mod_canTake (131, [(0, .ref mq), (1, .int (nI t)), (2, .int (nI s)), (3, .int m), (5, .int (nI i))], []) I D 0 0 (some (.int 1)) I D := by
  refine sh_mp (fun w Z k => sh_iload_n dc_Mod_canTake_131 rfl rfl k) ?_
  refine sh_mp (fun w Z k => sh_iconst (v := 1) dc_Mod_canTake_132 (by decide) k) ?_
  refine sh_mp (fun w Z k => sh_icmp_ne (tgt := 172) dc_Mod_canTake_133 (by decide) (fun _ => k) (fun z => absurd z c0_133)) ?_
  refine sh_mp (fun w Z k => sh_iconst (v := 1) dc_Mod_canTake_172 (by decide) k) ?_
  exact sh_me (fun w => sh_ireturn dc_Mod_canTake_173 rfl rfl (by decide) (by decide))
theorem mb_Mod_canTake_131_1 {mq : Nat} {A : Nat → Nat} {I I9 : sh_II} {D D9 : sh_DD} {v9 : Option Value} {t : Nat} {s : Nat} {m : Int32} {i : Nat} (ht : t < 6) (hs : s < 8) (hi : i < 6) (hx : ¬ 6 ≤ (nI i)) (c0_133 : m = 1) (c1_146 : (nI i) = (nI t)) (k9 : sh_mW mq A md_Mod_canTake (131, [(0, .ref mq), (1, .int (nI t)), (2, .int (nI s)), (3, .int m), (5, .int (nI (i + 1)))], []) I D 0 0 v9 I9 D9) : sh_mW mq A md_Mod_canTake (131, [(0, .ref mq), (1, .int (nI t)), (2, .int (nI s)), (3, .int m), (5, .int (nI i))], []) I D 0 0 v9 I9 D9 := by
  refine sh_mp (fun w Z k => sh_iload_n dc_Mod_canTake_131 rfl rfl k) ?_
  refine sh_mp (fun w Z k => sh_iconst (v := 1) dc_Mod_canTake_132 (by decide) k) ?_
  refine sh_mp (fun w Z k => sh_icmp_ne (tgt := 172) dc_Mod_canTake_133 (by decide) (fun z => absurd c0_133 z) (fun _ => k)) ?_
  refine sh_mp (fun w Z k => sh_iload dc_Mod_canTake_136 rfl k) ?_
  refine sh_mp (fun w Z k => sh_bipush (v := 6) dc_Mod_canTake_138 (by decide) k) ?_
  refine sh_mp (fun w Z k => sh_icmp_ge (tgt := 172) dc_Mod_canTake_140 (by decide) (fun z => absurd z hx) (fun _ => k)) ?_
  refine sh_mp (fun w Z k => sh_iload dc_Mod_canTake_143 rfl k) ?_
  refine sh_mp (fun w Z k => sh_iload_n dc_Mod_canTake_145 rfl rfl k) ?_
  refine sh_mp (fun w Z k => sh_icmp_eq (tgt := 166) dc_Mod_canTake_146 (by decide) (fun _ => k) (fun z => absurd c1_146 z)) ?_
  refine sh_mp (fun w Z k => sh_iinc (v := nI (i + 1)) dc_Mod_canTake_166 rfl (sh_nadd rfl (rfl : (1 : Int32) = nI 1)) (by decide) k) ?_
  refine sh_mp (fun w Z k => sh_goto_ (tgt := 131) dc_Mod_canTake_169 (by decide) k) ?_
  refine sh_mlv [1, 2, 3, 4, 0] rfl ?_
  exact k9
theorem mb_Mod_canTake_131_2 {mq : Nat} {A : Nat → Nat} {I I9 : sh_II} {D D9 : sh_DD} {v9 : Option Value} {t : Nat} {s : Nat} {m : Int32} {i : Nat} (ht : t < 6) (hs : s < 8) (hi : i < 6) (hx : ¬ 6 ≤ (nI i)) (c0_133 : m = 1) (c1_146 : ¬ (nI i) = (nI t)) (c2_161 : (I 17 ((6 * s) + i)) ≤ 0) (k9 : sh_mW mq A md_Mod_canTake (131, [(0, .ref mq), (1, .int (nI t)), (2, .int (nI s)), (3, .int m), (5, .int (nI (i + 1)))], []) I D 0 0 v9 I9 D9) : sh_mW mq A md_Mod_canTake (131, [(0, .ref mq), (1, .int (nI t)), (2, .int (nI s)), (3, .int m), (5, .int (nI i))], []) I D 0 0 v9 I9 D9 := by
  refine sh_mp (fun w Z k => sh_iload_n dc_Mod_canTake_131 rfl rfl k) ?_
  refine sh_mp (fun w Z k => sh_iconst (v := 1) dc_Mod_canTake_132 (by decide) k) ?_
  refine sh_mp (fun w Z k => sh_icmp_ne (tgt := 172) dc_Mod_canTake_133 (by decide) (fun z => absurd c0_133 z) (fun _ => k)) ?_
  refine sh_mp (fun w Z k => sh_iload dc_Mod_canTake_136 rfl k) ?_
  refine sh_mp (fun w Z k => sh_bipush (v := 6) dc_Mod_canTake_138 (by decide) k) ?_
  refine sh_mp (fun w Z k => sh_icmp_ge (tgt := 172) dc_Mod_canTake_140 (by decide) (fun z => absurd z hx) (fun _ => k)) ?_
  refine sh_mp (fun w Z k => sh_iload dc_Mod_canTake_143 rfl k) ?_
  refine sh_mp (fun w Z k => sh_iload_n dc_Mod_canTake_145 rfl rfl k) ?_
  refine sh_mp (fun w Z k => sh_icmp_eq (tgt := 166) dc_Mod_canTake_146 (by decide) (fun z => absurd z c1_146) (fun _ => k)) ?_
  refine sh_mp (fun w Z k => sh_aload_n dc_Mod_canTake_149 rfl rfl k) ?_
  refine sh_mget 17 dc_Mod_canTake_150 (by decide) fl_Mod_57 rfl rfl rfl rfl ?_
  refine sh_mp (fun w Z k => sh_bipush (v := 6) dc_Mod_canTake_153 (by decide) k) ?_
  refine sh_mp (fun w Z k => sh_iload_n dc_Mod_canTake_155 rfl rfl k) ?_
  refine sh_mp (fun w Z k => sh_imul dc_Mod_canTake_156 k) ?_
  refine sh_mp (fun w Z k => sh_iload dc_Mod_canTake_157 rfl k) ?_
  refine sh_mp (fun w Z k => sh_iadd dc_Mod_canTake_159 k) ?_
  refine sh_miald 17 (l := 48) (k := (6 * s) + i) dc_Mod_canTake_160 (by decide) (sh_nadd (sh_nmul rfl rfl) rfl) (by omega) (by decide) ?_
  refine sh_mp (fun w Z k => sh_if_le (tgt := 166) dc_Mod_canTake_161 (by decide) (fun _ => k) (fun z => absurd c2_161 z)) ?_
  refine sh_mp (fun w Z k => sh_iinc (v := nI (i + 1)) dc_Mod_canTake_166 rfl (sh_nadd rfl (rfl : (1 : Int32) = nI 1)) (by decide) k) ?_
  refine sh_mp (fun w Z k => sh_goto_ (tgt := 131) dc_Mod_canTake_169 (by decide) k) ?_
  refine sh_mlv [1, 2, 3, 4, 0] rfl ?_
  exact k9
theorem mb_Mod_canTake_131_3 {mq : Nat} {A : Nat → Nat} {I : sh_II} {D : sh_DD} {t : Nat} {s : Nat} {m : Int32} {i : Nat} (ht : t < 6) (hs : s < 8) (hi : i < 6) (hx : ¬ 6 ≤ (nI i)) (c0_133 : m = 1) (c1_146 : ¬ (nI i) = (nI t)) (c2_161 : ¬ (I 17 ((6 * s) + i)) ≤ 0) : sh_mW mq A md_Mod_canTake (131, [(0, .ref mq), (1, .int (nI t)), (2, .int (nI s)), (3, .int m), (5, .int (nI i))], []) I D 0 0 (some (.int 0)) I D := by
  refine sh_mp (fun w Z k => sh_iload_n dc_Mod_canTake_131 rfl rfl k) ?_
  refine sh_mp (fun w Z k => sh_iconst (v := 1) dc_Mod_canTake_132 (by decide) k) ?_
  refine sh_mp (fun w Z k => sh_icmp_ne (tgt := 172) dc_Mod_canTake_133 (by decide) (fun z => absurd c0_133 z) (fun _ => k)) ?_
  refine sh_mp (fun w Z k => sh_iload dc_Mod_canTake_136 rfl k) ?_
  refine sh_mp (fun w Z k => sh_bipush (v := 6) dc_Mod_canTake_138 (by decide) k) ?_
  refine sh_mp (fun w Z k => sh_icmp_ge (tgt := 172) dc_Mod_canTake_140 (by decide) (fun z => absurd z hx) (fun _ => k)) ?_
  refine sh_mp (fun w Z k => sh_iload dc_Mod_canTake_143 rfl k) ?_
  refine sh_mp (fun w Z k => sh_iload_n dc_Mod_canTake_145 rfl rfl k) ?_
  refine sh_mp (fun w Z k => sh_icmp_eq (tgt := 166) dc_Mod_canTake_146 (by decide) (fun z => absurd z c1_146) (fun _ => k)) ?_
  refine sh_mp (fun w Z k => sh_aload_n dc_Mod_canTake_149 rfl rfl k) ?_
  refine sh_mget 17 dc_Mod_canTake_150 (by decide) fl_Mod_57 rfl rfl rfl rfl ?_
  refine sh_mp (fun w Z k => sh_bipush (v := 6) dc_Mod_canTake_153 (by decide) k) ?_
  refine sh_mp (fun w Z k => sh_iload_n dc_Mod_canTake_155 rfl rfl k) ?_
  refine sh_mp (fun w Z k => sh_imul dc_Mod_canTake_156 k) ?_
  refine sh_mp (fun w Z k => sh_iload dc_Mod_canTake_157 rfl k) ?_
  refine sh_mp (fun w Z k => sh_iadd dc_Mod_canTake_159 k) ?_
  refine sh_miald 17 (l := 48) (k := (6 * s) + i) dc_Mod_canTake_160 (by decide) (sh_nadd (sh_nmul rfl rfl) rfl) (by omega) (by decide) ?_
  refine sh_mp (fun w Z k => sh_if_le (tgt := 166) dc_Mod_canTake_161 (by decide) (fun z => absurd z c2_161) (fun _ => k)) ?_
  refine sh_mp (fun w Z k => sh_iconst (v := 0) dc_Mod_canTake_164 (by decide) k) ?_
  exact sh_me (fun w => sh_ireturn dc_Mod_canTake_165 rfl rfl (by decide) (by decide))
theorem mb_Mod_canTake_131_4 {mq : Nat} {A : Nat → Nat} {I : sh_II} {D : sh_DD} {t : Nat} {s : Nat} {m : Int32} {i : Nat} (ht : t < 6) (hs : s < 8) (hi : i < 6) (hx : ¬ 6 ≤ (nI i)) (c0_133 : ¬ m = 1) : sh_mW mq A md_Mod_canTake (131, [(0, .ref mq), (1, .int (nI t)), (2, .int (nI s)), (3, .int m), (5, .int (nI i))], []) I D 0 0 (some (.int 1)) I D := by
  refine sh_mp (fun w Z k => sh_iload_n dc_Mod_canTake_131 rfl rfl k) ?_
  refine sh_mp (fun w Z k => sh_iconst (v := 1) dc_Mod_canTake_132 (by decide) k) ?_
  refine sh_mp (fun w Z k => sh_icmp_ne (tgt := 172) dc_Mod_canTake_133 (by decide) (fun _ => k) (fun z => absurd z c0_133)) ?_
  refine sh_mp (fun w Z k => sh_iconst (v := 1) dc_Mod_canTake_172 (by decide) k) ?_
  exact sh_me (fun w => sh_ireturn dc_Mod_canTake_173 rfl rfl (by decide) (by decide))
theorem mb_Mod_mustQueue_p_0_1 {mq : Nat} {A : Nat → Nat} {I : sh_II} {D : sh_DD} {t : Nat} {s : Nat} {m : Int32} (ht : t < 6) (hs : s < 8) (c0_11 : (I 12 s) = 4) : sh_mW mq A md_Mod_mustQueue (0, [(0, .ref mq), (1, .int (nI t)), (2, .int (nI s)), (3, .int m)], []) I D 0 0 (some (.int 0)) I D := by
  refine sh_mp (fun w Z k => sh_aload_n dc_Mod_mustQueue_0 rfl rfl k) ?_
  refine sh_mget 12 dc_Mod_mustQueue_1 (by decide) fl_Mod_42 rfl rfl rfl rfl ?_
  refine sh_mp (fun w Z k => sh_iload_n dc_Mod_mustQueue_4 rfl rfl k) ?_
  refine sh_miald 12 (l := 8) (k := s) dc_Mod_mustQueue_5 (by decide) rfl (by omega) (by decide) ?_
  refine sh_mp (fun w Z k => sh_istore dc_Mod_mustQueue_6 (by decide) k) ?_
  refine sh_mp (fun w Z k => sh_iload dc_Mod_mustQueue_8 rfl k) ?_
  refine sh_mp (fun w Z k => sh_iconst (v := 4) dc_Mod_mustQueue_10 (by decide) k) ?_
  refine sh_mp (fun w Z k => sh_icmp_eq (tgt := 30) dc_Mod_mustQueue_11 (by decide) (fun _ => k) (fun z => absurd c0_11 z)) ?_
  refine sh_mp (fun w Z k => sh_iconst (v := 0) dc_Mod_mustQueue_30 (by decide) k) ?_
  exact sh_me (fun w => sh_ireturn dc_Mod_mustQueue_31 rfl rfl (by decide) (by decide))
theorem mb_Mod_mustQueue_p_0_2 {mq : Nat} {A : Nat → Nat} {I : sh_II} {D : sh_DD} {t : Nat} {s : Nat} {m : Int32} (ht : t < 6) (hs : s < 8) (c0_11 : ¬ (I 12 s) = 4) (c1_17 : (I 12 s) = 1) (c2_27 : (I 13 s) = (nI t)) : sh_mW mq A md_Mod_mustQueue (0, [(0, .ref mq), (1, .int (nI t)), (2, .int (nI s)), (3, .int m)], []) I D 0 0 (some (.int 0)) I D := by
  refine sh_mp (fun w Z k => sh_aload_n dc_Mod_mustQueue_0 rfl rfl k) ?_
  refine sh_mget 12 dc_Mod_mustQueue_1 (by decide) fl_Mod_42 rfl rfl rfl rfl ?_
  refine sh_mp (fun w Z k => sh_iload_n dc_Mod_mustQueue_4 rfl rfl k) ?_
  refine sh_miald 12 (l := 8) (k := s) dc_Mod_mustQueue_5 (by decide) rfl (by omega) (by decide) ?_
  refine sh_mp (fun w Z k => sh_istore dc_Mod_mustQueue_6 (by decide) k) ?_
  refine sh_mp (fun w Z k => sh_iload dc_Mod_mustQueue_8 rfl k) ?_
  refine sh_mp (fun w Z k => sh_iconst (v := 4) dc_Mod_mustQueue_10 (by decide) k) ?_
  refine sh_mp (fun w Z k => sh_icmp_eq (tgt := 30) dc_Mod_mustQueue_11 (by decide) (fun z => absurd z c0_11) (fun _ => k)) ?_
  refine sh_mp (fun w Z k => sh_iload dc_Mod_mustQueue_14 rfl k) ?_
  refine sh_mp (fun w Z k => sh_iconst (v := 1) dc_Mod_mustQueue_16 (by decide) k) ?_
  refine sh_mp (fun w Z k => sh_icmp_ne (tgt := 32) dc_Mod_mustQueue_17 (by decide) (fun z => absurd c1_17 z) (fun _ => k)) ?_
  refine sh_mp (fun w Z k => sh_aload_n dc_Mod_mustQueue_20 rfl rfl k) ?_
  refine sh_mget 13 dc_Mod_mustQueue_21 (by decide) fl_Mod_45 rfl rfl rfl rfl ?_
  refine sh_mp (fun w Z k => sh_iload_n dc_Mod_mustQueue_24 rfl rfl k) ?_
  refine sh_miald 13 (l := 8) (k := s) dc_Mod_mustQueue_25 (by decide) rfl (by omega) (by decide) ?_
  refine sh_mp (fun w Z k => sh_iload_n dc_Mod_mustQueue_26 rfl rfl k) ?_
  refine sh_mp (fun w Z k => sh_icmp_ne (tgt := 32) dc_Mod_mustQueue_27 (by decide) (fun z => absurd c2_27 z) (fun _ => k)) ?_
  refine sh_mp (fun w Z k => sh_iconst (v := 0) dc_Mod_mustQueue_30 (by decide) k) ?_
  exact sh_me (fun w => sh_ireturn dc_Mod_mustQueue_31 rfl rfl (by decide) (by decide))
theorem mb_Mod_mustQueue_p_0_3 {mq : Nat} {A : Nat → Nat} {I : sh_II} {D : sh_DD} {t : Nat} {s : Nat} {m : Int32} (ht : t < 6) (hs : s < 8) (c0_11 : ¬ (I 12 s) = 4) (c1_17 : (I 12 s) = 1) (c2_27 : ¬ (I 13 s) = (nI t)) (c3_35 : (I 12 s) = 5) (c4_64 : 0 < (I 17 ((6 * s) + t))) : sh_mW mq A md_Mod_mustQueue (0, [(0, .ref mq), (1, .int (nI t)), (2, .int (nI s)), (3, .int m)], []) I D 0 0 (some (.int 0)) I D := by
  refine sh_mp (fun w Z k => sh_aload_n dc_Mod_mustQueue_0 rfl rfl k) ?_
  refine sh_mget 12 dc_Mod_mustQueue_1 (by decide) fl_Mod_42 rfl rfl rfl rfl ?_
  refine sh_mp (fun w Z k => sh_iload_n dc_Mod_mustQueue_4 rfl rfl k) ?_
  refine sh_miald 12 (l := 8) (k := s) dc_Mod_mustQueue_5 (by decide) rfl (by omega) (by decide) ?_
  refine sh_mp (fun w Z k => sh_istore dc_Mod_mustQueue_6 (by decide) k) ?_
  refine sh_mp (fun w Z k => sh_iload dc_Mod_mustQueue_8 rfl k) ?_
  refine sh_mp (fun w Z k => sh_iconst (v := 4) dc_Mod_mustQueue_10 (by decide) k) ?_
  refine sh_mp (fun w Z k => sh_icmp_eq (tgt := 30) dc_Mod_mustQueue_11 (by decide) (fun z => absurd z c0_11) (fun _ => k)) ?_
  refine sh_mp (fun w Z k => sh_iload dc_Mod_mustQueue_14 rfl k) ?_
  refine sh_mp (fun w Z k => sh_iconst (v := 1) dc_Mod_mustQueue_16 (by decide) k) ?_
  refine sh_mp (fun w Z k => sh_icmp_ne (tgt := 32) dc_Mod_mustQueue_17 (by decide) (fun z => absurd c1_17 z) (fun _ => k)) ?_
  refine sh_mp (fun w Z k => sh_aload_n dc_Mod_mustQueue_20 rfl rfl k) ?_
  refine sh_mget 13 dc_Mod_mustQueue_21 (by decide) fl_Mod_45 rfl rfl rfl rfl ?_
  refine sh_mp (fun w Z k => sh_iload_n dc_Mod_mustQueue_24 rfl rfl k) ?_
  refine sh_miald 13 (l := 8) (k := s) dc_Mod_mustQueue_25 (by decide) rfl (by omega) (by decide) ?_
  refine sh_mp (fun w Z k => sh_iload_n dc_Mod_mustQueue_26 rfl rfl k) ?_
  refine sh_mp (fun w Z k => sh_icmp_ne (tgt := 32) dc_Mod_mustQueue_27 (by decide) (fun _ => k) (fun z => absurd z c2_27)) ?_
  refine sh_mp (fun w Z k => sh_iload dc_Mod_mustQueue_32 rfl k) ?_
  refine sh_mp (fun w Z k => sh_iconst (v := 5) dc_Mod_mustQueue_34 (by decide) k) ?_
  refine sh_mp (fun w Z k => sh_icmp_eq (tgt := 53) dc_Mod_mustQueue_35 (by decide) (fun _ => k) (fun z => absurd c3_35 z)) ?_
  refine sh_mp (fun w Z k => sh_aload_n dc_Mod_mustQueue_53 rfl rfl k) ?_
  refine sh_mget 17 dc_Mod_mustQueue_54 (by decide) fl_Mod_57 rfl rfl rfl rfl ?_
  refine sh_mp (fun w Z k => sh_bipush (v := 6) dc_Mod_mustQueue_57 (by decide) k) ?_
  refine sh_mp (fun w Z k => sh_iload_n dc_Mod_mustQueue_59 rfl rfl k) ?_
  refine sh_mp (fun w Z k => sh_imul dc_Mod_mustQueue_60 k) ?_
  refine sh_mp (fun w Z k => sh_iload_n dc_Mod_mustQueue_61 rfl rfl k) ?_
  refine sh_mp (fun w Z k => sh_iadd dc_Mod_mustQueue_62 k) ?_
  refine sh_miald 17 (l := 48) (k := (6 * s) + t) dc_Mod_mustQueue_63 (by decide) (sh_nadd (sh_nmul rfl rfl) rfl) (by omega) (by decide) ?_
  refine sh_mp (fun w Z k => sh_if_gt (tgt := 77) dc_Mod_mustQueue_64 (by decide) (fun _ => k) (fun z => absurd c4_64 z)) ?_
  refine sh_mp (fun w Z k => sh_iconst (v := 0) dc_Mod_mustQueue_77 (by decide) k) ?_
  exact sh_me (fun w => sh_ireturn dc_Mod_mustQueue_78 rfl rfl (by decide) (by decide))
theorem mb_Mod_mustQueue_p_0_4 {mq : Nat} {A : Nat → Nat} {I I9 : sh_II} {D D9 : sh_DD} {v9 : Option Value} {t : Nat} {s : Nat} {m : Int32} (ht : t < 6) (hs : s < 8) (c0_11 : ¬ (I 12 s) = 4) (c1_17 : (I 12 s) = 1) (c2_27 : ¬ (I 13 s) = (nI t)) (c3_35 : (I 12 s) = 5) (c4_64 : ¬ 0 < (I 17 ((6 * s) + t))) (k9 : sh_mW mq A md_Mod_mustQueue (82, [(0, .ref mq), (1, .int (nI t)), (2, .int (nI s)), (3, .int m), (5, .int 0)], []) I D 0 0 v9 I9 D9) : sh_mW mq A md_Mod_mustQueue (0, [(0, .ref mq), (1, .int (nI t)), (2, .int (nI s)), (3, .int m)], []) I D 0 0 v9 I9 D9 := by
  refine sh_mp (fun w Z k => sh_aload_n dc_Mod_mustQueue_0 rfl rfl k) ?_
  refine sh_mget 12 dc_Mod_mustQueue_1 (by decide) fl_Mod_42 rfl rfl rfl rfl ?_
  refine sh_mp (fun w Z k => sh_iload_n dc_Mod_mustQueue_4 rfl rfl k) ?_
  refine sh_miald 12 (l := 8) (k := s) dc_Mod_mustQueue_5 (by decide) rfl (by omega) (by decide) ?_
  refine sh_mp (fun w Z k => sh_istore dc_Mod_mustQueue_6 (by decide) k) ?_
  refine sh_mp (fun w Z k => sh_iload dc_Mod_mustQueue_8 rfl k) ?_
  refine sh_mp (fun w Z k => sh_iconst (v := 4) dc_Mod_mustQueue_10 (by decide) k) ?_
  refine sh_mp (fun w Z k => sh_icmp_eq (tgt := 30) dc_Mod_mustQueue_11 (by decide) (fun z => absurd z c0_11) (fun _ => k)) ?_
  refine sh_mp (fun w Z k => sh_iload dc_Mod_mustQueue_14 rfl k) ?_
  refine sh_mp (fun w Z k => sh_iconst (v := 1) dc_Mod_mustQueue_16 (by decide) k) ?_
  refine sh_mp (fun w Z k => sh_icmp_ne (tgt := 32) dc_Mod_mustQueue_17 (by decide) (fun z => absurd c1_17 z) (fun _ => k)) ?_
  refine sh_mp (fun w Z k => sh_aload_n dc_Mod_mustQueue_20 rfl rfl k) ?_
  refine sh_mget 13 dc_Mod_mustQueue_21 (by decide) fl_Mod_45 rfl rfl rfl rfl ?_
  refine sh_mp (fun w Z k => sh_iload_n dc_Mod_mustQueue_24 rfl rfl k) ?_
  refine sh_miald 13 (l := 8) (k := s) dc_Mod_mustQueue_25 (by decide) rfl (by omega) (by decide) ?_
  refine sh_mp (fun w Z k => sh_iload_n dc_Mod_mustQueue_26 rfl rfl k) ?_
  refine sh_mp (fun w Z k => sh_icmp_ne (tgt := 32) dc_Mod_mustQueue_27 (by decide) (fun _ => k) (fun z => absurd z c2_27)) ?_
  refine sh_mp (fun w Z k => sh_iload dc_Mod_mustQueue_32 rfl k) ?_
  refine sh_mp (fun w Z k => sh_iconst (v := 5) dc_Mod_mustQueue_34 (by decide) k) ?_
  refine sh_mp (fun w Z k => sh_icmp_eq (tgt := 53) dc_Mod_mustQueue_35 (by decide) (fun _ => k) (fun z => absurd c3_35 z)) ?_
  refine sh_mp (fun w Z k => sh_aload_n dc_Mod_mustQueue_53 rfl rfl k) ?_
  refine sh_mget 17 dc_Mod_mustQueue_54 (by decide) fl_Mod_57 rfl rfl rfl rfl ?_
  refine sh_mp (fun w Z k => sh_bipush (v := 6) dc_Mod_mustQueue_57 (by decide) k) ?_
  refine sh_mp (fun w Z k => sh_iload_n dc_Mod_mustQueue_59 rfl rfl k) ?_
  refine sh_mp (fun w Z k => sh_imul dc_Mod_mustQueue_60 k) ?_
  refine sh_mp (fun w Z k => sh_iload_n dc_Mod_mustQueue_61 rfl rfl k) ?_
  refine sh_mp (fun w Z k => sh_iadd dc_Mod_mustQueue_62 k) ?_
  refine sh_miald 17 (l := 48) (k := (6 * s) + t) dc_Mod_mustQueue_63 (by decide) (sh_nadd (sh_nmul rfl rfl) rfl) (by omega) (by decide) ?_
  refine sh_mp (fun w Z k => sh_if_gt (tgt := 77) dc_Mod_mustQueue_64 (by decide) (fun z => absurd z c4_64) (fun _ => k)) ?_
  refine sh_mp (fun w Z k => sh_aload_n dc_Mod_mustQueue_67 rfl rfl k) ?_
  refine sh_mget 13 dc_Mod_mustQueue_68 (by decide) fl_Mod_45 rfl rfl rfl rfl ?_
  refine sh_mp (fun w Z k => sh_iload_n dc_Mod_mustQueue_71 rfl rfl k) ?_
  refine sh_miald 13 (l := 8) (k := s) dc_Mod_mustQueue_72 (by decide) rfl (by omega) (by decide) ?_
  refine sh_mp (fun w Z k => sh_iload_n dc_Mod_mustQueue_73 rfl rfl k) ?_
  refine sh_mp (fun w Z k => sh_icmp_ne (tgt := 79) dc_Mod_mustQueue_74 (by decide) (fun _ => k) (fun z => absurd z c2_27)) ?_
  refine sh_mp (fun w Z k => sh_iconst (v := 0) dc_Mod_mustQueue_79 (by decide) k) ?_
  refine sh_mp (fun w Z k => sh_istore dc_Mod_mustQueue_80 (by decide) k) ?_
  refine sh_mlv [2, 3, 4, 5, 0] rfl ?_
  exact k9
theorem mb_Mod_mustQueue_p_0_5 {mq : Nat} {A : Nat → Nat} {I : sh_II} {D : sh_DD} {t : Nat} {s : Nat} {m : Int32} (ht : t < 6) (hs : s < 8) (c0_11 : ¬ (I 12 s) = 4) (c1_17 : (I 12 s) = 1) (c2_27 : ¬ (I 13 s) = (nI t)) (c3_35 : ¬ (I 12 s) = 5) (c4_44 : (I 19 s) ≤ 0) : sh_mW mq A md_Mod_mustQueue (0, [(0, .ref mq), (1, .int (nI t)), (2, .int (nI s)), (3, .int m)], []) I D 0 0 (some (.int 0)) I D := by
  refine sh_mp (fun w Z k => sh_aload_n dc_Mod_mustQueue_0 rfl rfl k) ?_
  refine sh_mget 12 dc_Mod_mustQueue_1 (by decide) fl_Mod_42 rfl rfl rfl rfl ?_
  refine sh_mp (fun w Z k => sh_iload_n dc_Mod_mustQueue_4 rfl rfl k) ?_
  refine sh_miald 12 (l := 8) (k := s) dc_Mod_mustQueue_5 (by decide) rfl (by omega) (by decide) ?_
  refine sh_mp (fun w Z k => sh_istore dc_Mod_mustQueue_6 (by decide) k) ?_
  refine sh_mp (fun w Z k => sh_iload dc_Mod_mustQueue_8 rfl k) ?_
  refine sh_mp (fun w Z k => sh_iconst (v := 4) dc_Mod_mustQueue_10 (by decide) k) ?_
  refine sh_mp (fun w Z k => sh_icmp_eq (tgt := 30) dc_Mod_mustQueue_11 (by decide) (fun z => absurd z c0_11) (fun _ => k)) ?_
  refine sh_mp (fun w Z k => sh_iload dc_Mod_mustQueue_14 rfl k) ?_
  refine sh_mp (fun w Z k => sh_iconst (v := 1) dc_Mod_mustQueue_16 (by decide) k) ?_
  refine sh_mp (fun w Z k => sh_icmp_ne (tgt := 32) dc_Mod_mustQueue_17 (by decide) (fun z => absurd c1_17 z) (fun _ => k)) ?_
  refine sh_mp (fun w Z k => sh_aload_n dc_Mod_mustQueue_20 rfl rfl k) ?_
  refine sh_mget 13 dc_Mod_mustQueue_21 (by decide) fl_Mod_45 rfl rfl rfl rfl ?_
  refine sh_mp (fun w Z k => sh_iload_n dc_Mod_mustQueue_24 rfl rfl k) ?_
  refine sh_miald 13 (l := 8) (k := s) dc_Mod_mustQueue_25 (by decide) rfl (by omega) (by decide) ?_
  refine sh_mp (fun w Z k => sh_iload_n dc_Mod_mustQueue_26 rfl rfl k) ?_
  refine sh_mp (fun w Z k => sh_icmp_ne (tgt := 32) dc_Mod_mustQueue_27 (by decide) (fun _ => k) (fun z => absurd z c2_27)) ?_
  refine sh_mp (fun w Z k => sh_iload dc_Mod_mustQueue_32 rfl k) ?_
  refine sh_mp (fun w Z k => sh_iconst (v := 5) dc_Mod_mustQueue_34 (by decide) k) ?_
  refine sh_mp (fun w Z k => sh_icmp_eq (tgt := 53) dc_Mod_mustQueue_35 (by decide) (fun z => absurd z c3_35) (fun _ => k)) ?_
  refine sh_mp (fun w Z k => sh_aload_n dc_Mod_mustQueue_38 rfl rfl k) ?_
  refine sh_mget 19 dc_Mod_mustQueue_39 (by decide) fl_Mod_63 rfl rfl rfl rfl ?_
  refine sh_mp (fun w Z k => sh_iload_n dc_Mod_mustQueue_42 rfl rfl k) ?_
  refine sh_miald 19 (l := 8) (k := s) dc_Mod_mustQueue_43 (by decide) rfl (by omega) (by decide) ?_
  refine sh_mp (fun w Z k => sh_if_le (tgt := 51) dc_Mod_mustQueue_44 (by decide) (fun _ => k) (fun z => absurd c4_44 z)) ?_
  refine sh_mp (fun w Z k => sh_iconst (v := 0) dc_Mod_mustQueue_51 (by decide) k) ?_
  exact sh_me (fun w => sh_ireturn dc_Mod_mustQueue_52 rfl rfl (by decide) (by decide))
theorem mb_Mod_mustQueue_p_0_6 {mq : Nat} {A : Nat → Nat} {I : sh_II} {D : sh_DD} {t : Nat} {s : Nat} {m : Int32} (ht : t < 6) (hs : s < 8) (c0_11 : ¬ (I 12 s) = 4) (c1_17 : (I 12 s) = 1) (c2_27 : ¬ (I 13 s) = (nI t)) (c3_35 : ¬ (I 12 s) = 5) (c4_44 : ¬ (I 19 s) ≤ 0) : sh_mW mq A md_Mod_mustQueue (0, [(0, .ref mq), (1, .int (nI t)), (2, .int (nI s)), (3, .int m)], []) I D 0 0 (some (.int 1)) I D := by
  refine sh_mp (fun w Z k => sh_aload_n dc_Mod_mustQueue_0 rfl rfl k) ?_
  refine sh_mget 12 dc_Mod_mustQueue_1 (by decide) fl_Mod_42 rfl rfl rfl rfl ?_
  refine sh_mp (fun w Z k => sh_iload_n dc_Mod_mustQueue_4 rfl rfl k) ?_
  refine sh_miald 12 (l := 8) (k := s) dc_Mod_mustQueue_5 (by decide) rfl (by omega) (by decide) ?_
  refine sh_mp (fun w Z k => sh_istore dc_Mod_mustQueue_6 (by decide) k) ?_
  refine sh_mp (fun w Z k => sh_iload dc_Mod_mustQueue_8 rfl k) ?_
  refine sh_mp (fun w Z k => sh_iconst (v := 4) dc_Mod_mustQueue_10 (by decide) k) ?_
  refine sh_mp (fun w Z k => sh_icmp_eq (tgt := 30) dc_Mod_mustQueue_11 (by decide) (fun z => absurd z c0_11) (fun _ => k)) ?_
  refine sh_mp (fun w Z k => sh_iload dc_Mod_mustQueue_14 rfl k) ?_
  refine sh_mp (fun w Z k => sh_iconst (v := 1) dc_Mod_mustQueue_16 (by decide) k) ?_
  refine sh_mp (fun w Z k => sh_icmp_ne (tgt := 32) dc_Mod_mustQueue_17 (by decide) (fun z => absurd c1_17 z) (fun _ => k)) ?_
  refine sh_mp (fun w Z k => sh_aload_n dc_Mod_mustQueue_20 rfl rfl k) ?_
  refine sh_mget 13 dc_Mod_mustQueue_21 (by decide) fl_Mod_45 rfl rfl rfl rfl ?_
  refine sh_mp (fun w Z k => sh_iload_n dc_Mod_mustQueue_24 rfl rfl k) ?_
  refine sh_miald 13 (l := 8) (k := s) dc_Mod_mustQueue_25 (by decide) rfl (by omega) (by decide) ?_
  refine sh_mp (fun w Z k => sh_iload_n dc_Mod_mustQueue_26 rfl rfl k) ?_
  refine sh_mp (fun w Z k => sh_icmp_ne (tgt := 32) dc_Mod_mustQueue_27 (by decide) (fun _ => k) (fun z => absurd z c2_27)) ?_
  refine sh_mp (fun w Z k => sh_iload dc_Mod_mustQueue_32 rfl k) ?_
  refine sh_mp (fun w Z k => sh_iconst (v := 5) dc_Mod_mustQueue_34 (by decide) k) ?_
  refine sh_mp (fun w Z k => sh_icmp_eq (tgt := 53) dc_Mod_mustQueue_35 (by decide) (fun z => absurd z c3_35) (fun _ => k)) ?_
  refine sh_mp (fun w Z k => sh_aload_n dc_Mod_mustQueue_38 rfl rfl k) ?_
  refine sh_mget 19 dc_Mod_mustQueue_39 (by decide) fl_Mod_63 rfl rfl rfl rfl ?_
  refine sh_mp (fun w Z k => sh_iload_n dc_Mod_mustQueue_42 rfl rfl k) ?_
  refine sh_miald 19 (l := 8) (k := s) dc_Mod_mustQueue_43 (by decide) rfl (by omega) (by decide) ?_
  refine sh_mp (fun w Z k => sh_if_le (tgt := 51) dc_Mod_mustQueue_44 (by decide) (fun z => absurd z c4_44) (fun _ => k)) ?_
  refine sh_mp (fun w Z k => sh_iconst (v := 1) dc_Mod_mustQueue_47 (by decide) k) ?_
  refine sh_mp (fun w Z k => sh_goto_ (tgt := 52) dc_Mod_mustQueue_48 (by decide) k) ?_
  exact sh_me (fun w => sh_ireturn dc_Mod_mustQueue_52 rfl rfl (by decide) (by decide))
theorem mb_Mod_mustQueue_p_0_7 {mq : Nat} {A : Nat → Nat} {I : sh_II} {D : sh_DD} {t : Nat} {s : Nat} {m : Int32} (ht : t < 6) (hs : s < 8) (c0_11 : ¬ (I 12 s) = 4) (c1_17 : ¬ (I 12 s) = 1) (c2_35 : (I 12 s) = 5) (c3_64 : 0 < (I 17 ((6 * s) + t))) : sh_mW mq A md_Mod_mustQueue (0, [(0, .ref mq), (1, .int (nI t)), (2, .int (nI s)), (3, .int m)], []) I D 0 0 (some (.int 0)) I D := by
  refine sh_mp (fun w Z k => sh_aload_n dc_Mod_mustQueue_0 rfl rfl k) ?_
  refine sh_mget 12 dc_Mod_mustQueue_1 (by decide) fl_Mod_42 rfl rfl rfl rfl ?_
  refine sh_mp (fun w Z k => sh_iload_n dc_Mod_mustQueue_4 rfl rfl k) ?_
  refine sh_miald 12 (l := 8) (k := s) dc_Mod_mustQueue_5 (by decide) rfl (by omega) (by decide) ?_
  refine sh_mp (fun w Z k => sh_istore dc_Mod_mustQueue_6 (by decide) k) ?_
  refine sh_mp (fun w Z k => sh_iload dc_Mod_mustQueue_8 rfl k) ?_
  refine sh_mp (fun w Z k => sh_iconst (v := 4) dc_Mod_mustQueue_10 (by decide) k) ?_
  refine sh_mp (fun w Z k => sh_icmp_eq (tgt := 30) dc_Mod_mustQueue_11 (by decide) (fun z => absurd z c0_11) (fun _ => k)) ?_
  refine sh_mp (fun w Z k => sh_iload dc_Mod_mustQueue_14 rfl k) ?_
  refine sh_mp (fun w Z k => sh_iconst (v := 1) dc_Mod_mustQueue_16 (by decide) k) ?_
  refine sh_mp (fun w Z k => sh_icmp_ne (tgt := 32) dc_Mod_mustQueue_17 (by decide) (fun _ => k) (fun z => absurd z c1_17)) ?_
  refine sh_mp (fun w Z k => sh_iload dc_Mod_mustQueue_32 rfl k) ?_
  refine sh_mp (fun w Z k => sh_iconst (v := 5) dc_Mod_mustQueue_34 (by decide) k) ?_
  refine sh_mp (fun w Z k => sh_icmp_eq (tgt := 53) dc_Mod_mustQueue_35 (by decide) (fun _ => k) (fun z => absurd c2_35 z)) ?_
  refine sh_mp (fun w Z k => sh_aload_n dc_Mod_mustQueue_53 rfl rfl k) ?_
  refine sh_mget 17 dc_Mod_mustQueue_54 (by decide) fl_Mod_57 rfl rfl rfl rfl ?_
  refine sh_mp (fun w Z k => sh_bipush (v := 6) dc_Mod_mustQueue_57 (by decide) k) ?_
  refine sh_mp (fun w Z k => sh_iload_n dc_Mod_mustQueue_59 rfl rfl k) ?_
  refine sh_mp (fun w Z k => sh_imul dc_Mod_mustQueue_60 k) ?_
  refine sh_mp (fun w Z k => sh_iload_n dc_Mod_mustQueue_61 rfl rfl k) ?_
  refine sh_mp (fun w Z k => sh_iadd dc_Mod_mustQueue_62 k) ?_
  refine sh_miald 17 (l := 48) (k := (6 * s) + t) dc_Mod_mustQueue_63 (by decide) (sh_nadd (sh_nmul rfl rfl) rfl) (by omega) (by decide) ?_
  refine sh_mp (fun w Z k => sh_if_gt (tgt := 77) dc_Mod_mustQueue_64 (by decide) (fun _ => k) (fun z => absurd c3_64 z)) ?_
  refine sh_mp (fun w Z k => sh_iconst (v := 0) dc_Mod_mustQueue_77 (by decide) k) ?_
  exact sh_me (fun w => sh_ireturn dc_Mod_mustQueue_78 rfl rfl (by decide) (by decide))
theorem mb_Mod_mustQueue_p_0_8 {mq : Nat} {A : Nat → Nat} {I : sh_II} {D : sh_DD} {t : Nat} {s : Nat} {m : Int32} (ht : t < 6) (hs : s < 8) (c0_11 : ¬ (I 12 s) = 4) (c1_17 : ¬ (I 12 s) = 1) (c2_35 : (I 12 s) = 5) (c3_64 : ¬ 0 < (I 17 ((6 * s) + t))) (c4_74 : (I 13 s) = (nI t)) : sh_mW mq A md_Mod_mustQueue (0, [(0, .ref mq), (1, .int (nI t)), (2, .int (nI s)), (3, .int m)], []) I D 0 0 (some (.int 0)) I D := by
  refine sh_mp (fun w Z k => sh_aload_n dc_Mod_mustQueue_0 rfl rfl k) ?_
  refine sh_mget 12 dc_Mod_mustQueue_1 (by decide) fl_Mod_42 rfl rfl rfl rfl ?_
  refine sh_mp (fun w Z k => sh_iload_n dc_Mod_mustQueue_4 rfl rfl k) ?_
  refine sh_miald 12 (l := 8) (k := s) dc_Mod_mustQueue_5 (by decide) rfl (by omega) (by decide) ?_
  refine sh_mp (fun w Z k => sh_istore dc_Mod_mustQueue_6 (by decide) k) ?_
  refine sh_mp (fun w Z k => sh_iload dc_Mod_mustQueue_8 rfl k) ?_
  refine sh_mp (fun w Z k => sh_iconst (v := 4) dc_Mod_mustQueue_10 (by decide) k) ?_
  refine sh_mp (fun w Z k => sh_icmp_eq (tgt := 30) dc_Mod_mustQueue_11 (by decide) (fun z => absurd z c0_11) (fun _ => k)) ?_
  refine sh_mp (fun w Z k => sh_iload dc_Mod_mustQueue_14 rfl k) ?_
  refine sh_mp (fun w Z k => sh_iconst (v := 1) dc_Mod_mustQueue_16 (by decide) k) ?_
  refine sh_mp (fun w Z k => sh_icmp_ne (tgt := 32) dc_Mod_mustQueue_17 (by decide) (fun _ => k) (fun z => absurd z c1_17)) ?_
  refine sh_mp (fun w Z k => sh_iload dc_Mod_mustQueue_32 rfl k) ?_
  refine sh_mp (fun w Z k => sh_iconst (v := 5) dc_Mod_mustQueue_34 (by decide) k) ?_
  refine sh_mp (fun w Z k => sh_icmp_eq (tgt := 53) dc_Mod_mustQueue_35 (by decide) (fun _ => k) (fun z => absurd c2_35 z)) ?_
  refine sh_mp (fun w Z k => sh_aload_n dc_Mod_mustQueue_53 rfl rfl k) ?_
  refine sh_mget 17 dc_Mod_mustQueue_54 (by decide) fl_Mod_57 rfl rfl rfl rfl ?_
  refine sh_mp (fun w Z k => sh_bipush (v := 6) dc_Mod_mustQueue_57 (by decide) k) ?_
  refine sh_mp (fun w Z k => sh_iload_n dc_Mod_mustQueue_59 rfl rfl k) ?_
  refine sh_mp (fun w Z k => sh_imul dc_Mod_mustQueue_60 k) ?_
  refine sh_mp (fun w Z k => sh_iload_n dc_Mod_mustQueue_61 rfl rfl k) ?_
  refine sh_mp (fun w Z k => sh_iadd dc_Mod_mustQueue_62 k) ?_
  refine sh_miald 17 (l := 48) (k := (6 * s) + t) dc_Mod_mustQueue_63 (by decide) (sh_nadd (sh_nmul rfl rfl) rfl) (by omega) (by decide) ?_
  refine sh_mp (fun w Z k => sh_if_gt (tgt := 77) dc_Mod_mustQueue_64 (by decide) (fun z => absurd z c3_64) (fun _ => k)) ?_
  refine sh_mp (fun w Z k => sh_aload_n dc_Mod_mustQueue_67 rfl rfl k) ?_
  refine sh_mget 13 dc_Mod_mustQueue_68 (by decide) fl_Mod_45 rfl rfl rfl rfl ?_
  refine sh_mp (fun w Z k => sh_iload_n dc_Mod_mustQueue_71 rfl rfl k) ?_
  refine sh_miald 13 (l := 8) (k := s) dc_Mod_mustQueue_72 (by decide) rfl (by omega) (by decide) ?_
  refine sh_mp (fun w Z k => sh_iload_n dc_Mod_mustQueue_73 rfl rfl k) ?_
  refine sh_mp (fun w Z k => sh_icmp_ne (tgt := 79) dc_Mod_mustQueue_74 (by decide) (fun z => absurd c4_74 z) (fun _ => k)) ?_
  refine sh_mp (fun w Z k => sh_iconst (v := 0) dc_Mod_mustQueue_77 (by decide) k) ?_
  exact sh_me (fun w => sh_ireturn dc_Mod_mustQueue_78 rfl rfl (by decide) (by decide))
theorem mb_Mod_mustQueue_p_0_9 {mq : Nat} {A : Nat → Nat} {I I9 : sh_II} {D D9 : sh_DD} {v9 : Option Value} {t : Nat} {s : Nat} {m : Int32} (ht : t < 6) (hs : s < 8) (c0_11 : ¬ (I 12 s) = 4) (c1_17 : ¬ (I 12 s) = 1) (c2_35 : (I 12 s) = 5) (c3_64 : ¬ 0 < (I 17 ((6 * s) + t))) (c4_74 : ¬ (I 13 s) = (nI t)) (k9 : sh_mW mq A md_Mod_mustQueue (82, [(0, .ref mq), (1, .int (nI t)), (2, .int (nI s)), (3, .int m), (5, .int 0)], []) I D 0 0 v9 I9 D9) : sh_mW mq A md_Mod_mustQueue (0, [(0, .ref mq), (1, .int (nI t)), (2, .int (nI s)), (3, .int m)], []) I D 0 0 v9 I9 D9 := by
  refine sh_mp (fun w Z k => sh_aload_n dc_Mod_mustQueue_0 rfl rfl k) ?_
  refine sh_mget 12 dc_Mod_mustQueue_1 (by decide) fl_Mod_42 rfl rfl rfl rfl ?_
  refine sh_mp (fun w Z k => sh_iload_n dc_Mod_mustQueue_4 rfl rfl k) ?_
  refine sh_miald 12 (l := 8) (k := s) dc_Mod_mustQueue_5 (by decide) rfl (by omega) (by decide) ?_
  refine sh_mp (fun w Z k => sh_istore dc_Mod_mustQueue_6 (by decide) k) ?_
  refine sh_mp (fun w Z k => sh_iload dc_Mod_mustQueue_8 rfl k) ?_
  refine sh_mp (fun w Z k => sh_iconst (v := 4) dc_Mod_mustQueue_10 (by decide) k) ?_
  refine sh_mp (fun w Z k => sh_icmp_eq (tgt := 30) dc_Mod_mustQueue_11 (by decide) (fun z => absurd z c0_11) (fun _ => k)) ?_
  refine sh_mp (fun w Z k => sh_iload dc_Mod_mustQueue_14 rfl k) ?_
  refine sh_mp (fun w Z k => sh_iconst (v := 1) dc_Mod_mustQueue_16 (by decide) k) ?_
  refine sh_mp (fun w Z k => sh_icmp_ne (tgt := 32) dc_Mod_mustQueue_17 (by decide) (fun _ => k) (fun z => absurd z c1_17)) ?_
  refine sh_mp (fun w Z k => sh_iload dc_Mod_mustQueue_32 rfl k) ?_
  refine sh_mp (fun w Z k => sh_iconst (v := 5) dc_Mod_mustQueue_34 (by decide) k) ?_
  refine sh_mp (fun w Z k => sh_icmp_eq (tgt := 53) dc_Mod_mustQueue_35 (by decide) (fun _ => k) (fun z => absurd c2_35 z)) ?_
  refine sh_mp (fun w Z k => sh_aload_n dc_Mod_mustQueue_53 rfl rfl k) ?_
  refine sh_mget 17 dc_Mod_mustQueue_54 (by decide) fl_Mod_57 rfl rfl rfl rfl ?_
  refine sh_mp (fun w Z k => sh_bipush (v := 6) dc_Mod_mustQueue_57 (by decide) k) ?_
  refine sh_mp (fun w Z k => sh_iload_n dc_Mod_mustQueue_59 rfl rfl k) ?_
  refine sh_mp (fun w Z k => sh_imul dc_Mod_mustQueue_60 k) ?_
  refine sh_mp (fun w Z k => sh_iload_n dc_Mod_mustQueue_61 rfl rfl k) ?_
  refine sh_mp (fun w Z k => sh_iadd dc_Mod_mustQueue_62 k) ?_
  refine sh_miald 17 (l := 48) (k := (6 * s) + t) dc_Mod_mustQueue_63 (by decide) (sh_nadd (sh_nmul rfl rfl) rfl) (by omega) (by decide) ?_
  refine sh_mp (fun w Z k => sh_if_gt (tgt := 77) dc_Mod_mustQueue_64 (by decide) (fun z => absurd z c3_64) (fun _ => k)) ?_
  refine sh_mp (fun w Z k => sh_aload_n dc_Mod_mustQueue_67 rfl rfl k) ?_
  refine sh_mget 13 dc_Mod_mustQueue_68 (by decide) fl_Mod_45 rfl rfl rfl rfl ?_
  refine sh_mp (fun w Z k => sh_iload_n dc_Mod_mustQueue_71 rfl rfl k) ?_
  refine sh_miald 13 (l := 8) (k := s) dc_Mod_mustQueue_72 (by decide) rfl (by omega) (by decide) ?_
  refine sh_mp (fun w Z k => sh_iload_n dc_Mod_mustQueue_73 rfl rfl k) ?_
  refine sh_mp (fun w Z k => sh_icmp_ne (tgt := 79) dc_Mod_mustQueue_74 (by decide) (fun _ => k) (fun z => absurd z c4_74)) ?_
  refine sh_mp (fun w Z k => sh_iconst (v := 0) dc_Mod_mustQueue_79 (by decide) k) ?_
  refine sh_mp (fun w Z k => sh_istore dc_Mod_mustQueue_80 (by decide) k) ?_
  refine sh_mlv [2, 3, 4, 5, 0] rfl ?_
  exact k9
theorem mb_Mod_mustQueue_p_0_10 {mq : Nat} {A : Nat → Nat} {I : sh_II} {D : sh_DD} {t : Nat} {s : Nat} {m : Int32} (ht : t < 6) (hs : s < 8) (c0_11 : ¬ (I 12 s) = 4) (c1_17 : ¬ (I 12 s) = 1) (c2_35 : ¬ (I 12 s) = 5) (c3_44 : (I 19 s) ≤ 0) : sh_mW mq A md_Mod_mustQueue (0, [(0, .ref mq), (1, .int (nI t)), (2, .int (nI s)), (3, .int m)], []) I D 0 0 (some (.int 0)) I D := by
  refine sh_mp (fun w Z k => sh_aload_n dc_Mod_mustQueue_0 rfl rfl k) ?_
  refine sh_mget 12 dc_Mod_mustQueue_1 (by decide) fl_Mod_42 rfl rfl rfl rfl ?_
  refine sh_mp (fun w Z k => sh_iload_n dc_Mod_mustQueue_4 rfl rfl k) ?_
  refine sh_miald 12 (l := 8) (k := s) dc_Mod_mustQueue_5 (by decide) rfl (by omega) (by decide) ?_
  refine sh_mp (fun w Z k => sh_istore dc_Mod_mustQueue_6 (by decide) k) ?_
  refine sh_mp (fun w Z k => sh_iload dc_Mod_mustQueue_8 rfl k) ?_
  refine sh_mp (fun w Z k => sh_iconst (v := 4) dc_Mod_mustQueue_10 (by decide) k) ?_
  refine sh_mp (fun w Z k => sh_icmp_eq (tgt := 30) dc_Mod_mustQueue_11 (by decide) (fun z => absurd z c0_11) (fun _ => k)) ?_
  refine sh_mp (fun w Z k => sh_iload dc_Mod_mustQueue_14 rfl k) ?_
  refine sh_mp (fun w Z k => sh_iconst (v := 1) dc_Mod_mustQueue_16 (by decide) k) ?_
  refine sh_mp (fun w Z k => sh_icmp_ne (tgt := 32) dc_Mod_mustQueue_17 (by decide) (fun _ => k) (fun z => absurd z c1_17)) ?_
  refine sh_mp (fun w Z k => sh_iload dc_Mod_mustQueue_32 rfl k) ?_
  refine sh_mp (fun w Z k => sh_iconst (v := 5) dc_Mod_mustQueue_34 (by decide) k) ?_
  refine sh_mp (fun w Z k => sh_icmp_eq (tgt := 53) dc_Mod_mustQueue_35 (by decide) (fun z => absurd z c2_35) (fun _ => k)) ?_
  refine sh_mp (fun w Z k => sh_aload_n dc_Mod_mustQueue_38 rfl rfl k) ?_
  refine sh_mget 19 dc_Mod_mustQueue_39 (by decide) fl_Mod_63 rfl rfl rfl rfl ?_
  refine sh_mp (fun w Z k => sh_iload_n dc_Mod_mustQueue_42 rfl rfl k) ?_
  refine sh_miald 19 (l := 8) (k := s) dc_Mod_mustQueue_43 (by decide) rfl (by omega) (by decide) ?_
  refine sh_mp (fun w Z k => sh_if_le (tgt := 51) dc_Mod_mustQueue_44 (by decide) (fun _ => k) (fun z => absurd c3_44 z)) ?_
  refine sh_mp (fun w Z k => sh_iconst (v := 0) dc_Mod_mustQueue_51 (by decide) k) ?_
  exact sh_me (fun w => sh_ireturn dc_Mod_mustQueue_52 rfl rfl (by decide) (by decide))
theorem mb_Mod_mustQueue_p_0_11 {mq : Nat} {A : Nat → Nat} {I : sh_II} {D : sh_DD} {t : Nat} {s : Nat} {m : Int32} (ht : t < 6) (hs : s < 8) (c0_11 : ¬ (I 12 s) = 4) (c1_17 : ¬ (I 12 s) = 1) (c2_35 : ¬ (I 12 s) = 5) (c3_44 : ¬ (I 19 s) ≤ 0) : sh_mW mq A md_Mod_mustQueue (0, [(0, .ref mq), (1, .int (nI t)), (2, .int (nI s)), (3, .int m)], []) I D 0 0 (some (.int 1)) I D := by
  refine sh_mp (fun w Z k => sh_aload_n dc_Mod_mustQueue_0 rfl rfl k) ?_
  refine sh_mget 12 dc_Mod_mustQueue_1 (by decide) fl_Mod_42 rfl rfl rfl rfl ?_
  refine sh_mp (fun w Z k => sh_iload_n dc_Mod_mustQueue_4 rfl rfl k) ?_
  refine sh_miald 12 (l := 8) (k := s) dc_Mod_mustQueue_5 (by decide) rfl (by omega) (by decide) ?_
  refine sh_mp (fun w Z k => sh_istore dc_Mod_mustQueue_6 (by decide) k) ?_
  refine sh_mp (fun w Z k => sh_iload dc_Mod_mustQueue_8 rfl k) ?_
  refine sh_mp (fun w Z k => sh_iconst (v := 4) dc_Mod_mustQueue_10 (by decide) k) ?_
  refine sh_mp (fun w Z k => sh_icmp_eq (tgt := 30) dc_Mod_mustQueue_11 (by decide) (fun z => absurd z c0_11) (fun _ => k)) ?_
  refine sh_mp (fun w Z k => sh_iload dc_Mod_mustQueue_14 rfl k) ?_
  refine sh_mp (fun w Z k => sh_iconst (v := 1) dc_Mod_mustQueue_16 (by decide) k) ?_
  refine sh_mp (fun w Z k => sh_icmp_ne (tgt := 32) dc_Mod_mustQueue_17 (by decide) (fun _ => k) (fun z => absurd z c1_17)) ?_
  refine sh_mp (fun w Z k => sh_iload dc_Mod_mustQueue_32 rfl k) ?_
  refine sh_mp (fun w Z k => sh_iconst (v := 5) dc_Mod_mustQueue_34 (by decide) k) ?_
  refine sh_mp (fun w Z k => sh_icmp_eq (tgt := 53) dc_Mod_mustQueue_35 (by decide) (fun z => absurd z c2_35) (fun _ => k)) ?_
  refine sh_mp (fun w Z k => sh_aload_n dc_Mod_mustQueue_38 rfl rfl k) ?_
  refine sh_mget 19 dc_Mod_mustQueue_39 (by decide) fl_Mod_63 rfl rfl rfl rfl ?_
  refine sh_mp (fun w Z k => sh_iload_n dc_Mod_mustQueue_42 rfl rfl k) ?_
  refine sh_miald 19 (l := 8) (k := s) dc_Mod_mustQueue_43 (by decide) rfl (by omega) (by decide) ?_
  refine sh_mp (fun w Z k => sh_if_le (tgt := 51) dc_Mod_mustQueue_44 (by decide) (fun z => absurd z c3_44) (fun _ => k)) ?_
  refine sh_mp (fun w Z k => sh_iconst (v := 1) dc_Mod_mustQueue_47 (by decide) k) ?_
  refine sh_mp (fun w Z k => sh_goto_ (tgt := 52) dc_Mod_mustQueue_48 (by decide) k) ?_
  exact sh_me (fun w => sh_ireturn dc_Mod_mustQueue_52 rfl rfl (by decide) (by decide))
theorem mb_Mod_mustQueue_e_82_1 {mq : Nat} {A : Nat → Nat} {I : sh_II} {D : sh_DD} {t : Nat} {s : Nat} {m : Int32} {i : Nat} (ht : t < 6) (hs : s < 8) (hx : (I 19 s) ≤ (nI i)) : sh_mW mq A md_Mod_mustQueue (82, [(0, .ref mq), (1, .int (nI t)), (2, .int (nI s)), (3, .int m), (5, .int (nI i))], []) I D 0 0 (some (.int 0)) I D := by
  refine sh_mp (fun w Z k => sh_iload dc_Mod_mustQueue_82 rfl k) ?_
  refine sh_mp (fun w Z k => sh_aload_n dc_Mod_mustQueue_84 rfl rfl k) ?_
  refine sh_mget 19 dc_Mod_mustQueue_85 (by decide) fl_Mod_63 rfl rfl rfl rfl ?_
  refine sh_mp (fun w Z k => sh_iload_n dc_Mod_mustQueue_88 rfl rfl k) ?_
  refine sh_miald 19 (l := 8) (k := s) dc_Mod_mustQueue_89 (by decide) rfl (by omega) (by decide) ?_
  refine sh_mp (fun w Z k => sh_icmp_ge (tgt := 127) dc_Mod_mustQueue_90 (by decide) (fun _ => k) (fun z => absurd hx z)) ?_
  refine sh_mp (fun w Z k => sh_iconst (v := 0) dc_Mod_mustQueue_127 (by decide) k) ?_
  exact sh_me (fun w => sh_ireturn dc_Mod_mustQueue_128 rfl rfl (by decide) (by decide))
theorem mb_Mod_mustQueue_82_1 {mq : Nat} {A : Nat → Nat} {I : sh_II} {D : sh_DD} {t : Nat} {s : Nat} {m : Int32} {i : Nat} {u : Nat} (ht : t < 6) (hs : s < 8) (hi : i < 6) (hx : ¬ (I 19 s) ≤ (nI i)) (hu : u < 6) (er : I 18 ((6 * s) + i) = nI u) (c0_95 : m = 1) : sh_mW mq A md_Mod_mustQueue (82, [(0, .ref mq), (1, .int (nI t)), (2, .int (nI s)), (3, .int m), (5, .int (nI i))], []) I D 0 0 (some (.int 1)) I D := by
  refine sh_mp (fun w Z k => sh_iload dc_Mod_mustQueue_82 rfl k) ?_
  refine sh_mp (fun w Z k => sh_aload_n dc_Mod_mustQueue_84 rfl rfl k) ?_
  refine sh_mget 19 dc_Mod_mustQueue_85 (by decide) fl_Mod_63 rfl rfl rfl rfl ?_
  refine sh_mp (fun w Z k => sh_iload_n dc_Mod_mustQueue_88 rfl rfl k) ?_
  refine sh_miald 19 (l := 8) (k := s) dc_Mod_mustQueue_89 (by decide) rfl (by omega) (by decide) ?_
  refine sh_mp (fun w Z k => sh_icmp_ge (tgt := 127) dc_Mod_mustQueue_90 (by decide) (fun z => absurd z hx) (fun _ => k)) ?_
  refine sh_mp (fun w Z k => sh_iload_n dc_Mod_mustQueue_93 rfl rfl k) ?_
  refine sh_mp (fun w Z k => sh_iconst (v := 1) dc_Mod_mustQueue_94 (by decide) k) ?_
  refine sh_mp (fun w Z k => sh_icmp_eq (tgt := 119) dc_Mod_mustQueue_95 (by decide) (fun _ => k) (fun z => absurd c0_95 z)) ?_
  refine sh_mp (fun w Z k => sh_iconst (v := 1) dc_Mod_mustQueue_119 (by decide) k) ?_
  exact sh_me (fun w => sh_ireturn dc_Mod_mustQueue_120 rfl rfl (by decide) (by decide))
theorem mb_Mod_mustQueue_82_2 {mq : Nat} {A : Nat → Nat} {I : sh_II} {D : sh_DD} {t : Nat} {s : Nat} {m : Int32} {i : Nat} {u : Nat} (ht : t < 6) (hs : s < 8) (hi : i < 6) (hx : ¬ (I 19 s) ≤ (nI i)) (hu : u < 6) (er : I 18 ((6 * s) + i) = nI u) (c0_95 : ¬ m = 1) (c1_116 : (I 6 u) = 1) : sh_mW mq A md_Mod_mustQueue (82, [(0, .ref mq), (1, .int (nI t)), (2, .int (nI s)), (3, .int m), (5, .int (nI i))], []) I D 0 0 (some (.int 1)) I D := by
  refine sh_mp (fun w Z k => sh_iload dc_Mod_mustQueue_82 rfl k) ?_
  refine sh_mp (fun w Z k => sh_aload_n dc_Mod_mustQueue_84 rfl rfl k) ?_
  refine sh_mget 19 dc_Mod_mustQueue_85 (by decide) fl_Mod_63 rfl rfl rfl rfl ?_
  refine sh_mp (fun w Z k => sh_iload_n dc_Mod_mustQueue_88 rfl rfl k) ?_
  refine sh_miald 19 (l := 8) (k := s) dc_Mod_mustQueue_89 (by decide) rfl (by omega) (by decide) ?_
  refine sh_mp (fun w Z k => sh_icmp_ge (tgt := 127) dc_Mod_mustQueue_90 (by decide) (fun z => absurd z hx) (fun _ => k)) ?_
  refine sh_mp (fun w Z k => sh_iload_n dc_Mod_mustQueue_93 rfl rfl k) ?_
  refine sh_mp (fun w Z k => sh_iconst (v := 1) dc_Mod_mustQueue_94 (by decide) k) ?_
  refine sh_mp (fun w Z k => sh_icmp_eq (tgt := 119) dc_Mod_mustQueue_95 (by decide) (fun z => absurd z c0_95) (fun _ => k)) ?_
  refine sh_mp (fun w Z k => sh_aload_n dc_Mod_mustQueue_98 rfl rfl k) ?_
  refine sh_mget 6 dc_Mod_mustQueue_99 (by decide) fl_Mod_27 rfl rfl rfl rfl ?_
  refine sh_mp (fun w Z k => sh_aload_n dc_Mod_mustQueue_102 rfl rfl k) ?_
  refine sh_mget 18 dc_Mod_mustQueue_103 (by decide) fl_Mod_60 rfl rfl rfl rfl ?_
  refine sh_mp (fun w Z k => sh_bipush (v := 6) dc_Mod_mustQueue_106 (by decide) k) ?_
  refine sh_mp (fun w Z k => sh_iload_n dc_Mod_mustQueue_108 rfl rfl k) ?_
  refine sh_mp (fun w Z k => sh_imul dc_Mod_mustQueue_109 k) ?_
  refine sh_mp (fun w Z k => sh_iload dc_Mod_mustQueue_110 rfl k) ?_
  refine sh_mp (fun w Z k => sh_iadd dc_Mod_mustQueue_112 k) ?_
  refine sh_miald 18 (l := 48) (k := (6 * s) + i) dc_Mod_mustQueue_113 (by decide) (sh_nadd (sh_nmul rfl rfl) rfl) (by omega) (by decide) ?_
  refine sh_miald 6 (l := 6) (k := u) dc_Mod_mustQueue_114 (by decide) er (by omega) (by decide) ?_
  refine sh_mp (fun w Z k => sh_iconst (v := 1) dc_Mod_mustQueue_115 (by decide) k) ?_
  refine sh_mp (fun w Z k => sh_icmp_ne (tgt := 121) dc_Mod_mustQueue_116 (by decide) (fun z => absurd c1_116 z) (fun _ => k)) ?_
  refine sh_mp (fun w Z k => sh_iconst (v := 1) dc_Mod_mustQueue_119 (by decide) k) ?_
  exact sh_me (fun w => sh_ireturn dc_Mod_mustQueue_120 rfl rfl (by decide) (by decide))
theorem mb_Mod_mustQueue_82_3 {mq : Nat} {A : Nat → Nat} {I I9 : sh_II} {D D9 : sh_DD} {v9 : Option Value} {t : Nat} {s : Nat} {m : Int32} {i : Nat} {u : Nat} (ht : t < 6) (hs : s < 8) (hi : i < 6) (hx : ¬ (I 19 s) ≤ (nI i)) (hu : u < 6) (er : I 18 ((6 * s) + i) = nI u) (c0_95 : ¬ m = 1) (c1_116 : ¬ (I 6 u) = 1) (k9 : sh_mW mq A md_Mod_mustQueue (82, [(0, .ref mq), (1, .int (nI t)), (2, .int (nI s)), (3, .int m), (5, .int (nI (i + 1)))], []) I D 0 0 v9 I9 D9) : sh_mW mq A md_Mod_mustQueue (82, [(0, .ref mq), (1, .int (nI t)), (2, .int (nI s)), (3, .int m), (5, .int (nI i))], []) I D 0 0 v9 I9 D9 := by
  refine sh_mp (fun w Z k => sh_iload dc_Mod_mustQueue_82 rfl k) ?_
  refine sh_mp (fun w Z k => sh_aload_n dc_Mod_mustQueue_84 rfl rfl k) ?_
  refine sh_mget 19 dc_Mod_mustQueue_85 (by decide) fl_Mod_63 rfl rfl rfl rfl ?_
  refine sh_mp (fun w Z k => sh_iload_n dc_Mod_mustQueue_88 rfl rfl k) ?_
  refine sh_miald 19 (l := 8) (k := s) dc_Mod_mustQueue_89 (by decide) rfl (by omega) (by decide) ?_
  refine sh_mp (fun w Z k => sh_icmp_ge (tgt := 127) dc_Mod_mustQueue_90 (by decide) (fun z => absurd z hx) (fun _ => k)) ?_
  refine sh_mp (fun w Z k => sh_iload_n dc_Mod_mustQueue_93 rfl rfl k) ?_
  refine sh_mp (fun w Z k => sh_iconst (v := 1) dc_Mod_mustQueue_94 (by decide) k) ?_
  refine sh_mp (fun w Z k => sh_icmp_eq (tgt := 119) dc_Mod_mustQueue_95 (by decide) (fun z => absurd z c0_95) (fun _ => k)) ?_
  refine sh_mp (fun w Z k => sh_aload_n dc_Mod_mustQueue_98 rfl rfl k) ?_
  refine sh_mget 6 dc_Mod_mustQueue_99 (by decide) fl_Mod_27 rfl rfl rfl rfl ?_
  refine sh_mp (fun w Z k => sh_aload_n dc_Mod_mustQueue_102 rfl rfl k) ?_
  refine sh_mget 18 dc_Mod_mustQueue_103 (by decide) fl_Mod_60 rfl rfl rfl rfl ?_
  refine sh_mp (fun w Z k => sh_bipush (v := 6) dc_Mod_mustQueue_106 (by decide) k) ?_
  refine sh_mp (fun w Z k => sh_iload_n dc_Mod_mustQueue_108 rfl rfl k) ?_
  refine sh_mp (fun w Z k => sh_imul dc_Mod_mustQueue_109 k) ?_
  refine sh_mp (fun w Z k => sh_iload dc_Mod_mustQueue_110 rfl k) ?_
  refine sh_mp (fun w Z k => sh_iadd dc_Mod_mustQueue_112 k) ?_
  refine sh_miald 18 (l := 48) (k := (6 * s) + i) dc_Mod_mustQueue_113 (by decide) (sh_nadd (sh_nmul rfl rfl) rfl) (by omega) (by decide) ?_
  refine sh_miald 6 (l := 6) (k := u) dc_Mod_mustQueue_114 (by decide) er (by omega) (by decide) ?_
  refine sh_mp (fun w Z k => sh_iconst (v := 1) dc_Mod_mustQueue_115 (by decide) k) ?_
  refine sh_mp (fun w Z k => sh_icmp_ne (tgt := 121) dc_Mod_mustQueue_116 (by decide) (fun _ => k) (fun z => absurd z c1_116)) ?_
  refine sh_mp (fun w Z k => sh_iinc (v := nI (i + 1)) dc_Mod_mustQueue_121 rfl (sh_nadd rfl (rfl : (1 : Int32) = nI 1)) (by decide) k) ?_
  refine sh_mp (fun w Z k => sh_goto_ (tgt := 82) dc_Mod_mustQueue_124 (by decide) k) ?_
  refine sh_mlv [1, 2, 3, 4, 0] rfl ?_
  exact k9
theorem mb_Mod_remove_p_0_1 {mq : Nat} {A : Nat → Nat} {I I9 : sh_II} {D D9 : sh_DD} {v9 : Option Value} {t : Nat} {s : Nat} (ht : t < 6) (hs : s < 8) (k9 : sh_mW mq A md_Mod_remove (2, [(0, .ref mq), (1, .int (nI t)), (2, .int (nI s)), (3, .int 0)], []) I D 0 0 v9 I9 D9) : sh_mW mq A md_Mod_remove (0, [(0, .ref mq), (1, .int (nI t)), (2, .int (nI s))], []) I D 0 0 v9 I9 D9 := by
  refine sh_mp (fun w Z k => sh_iconst (v := 0) dc_Mod_remove_0 (by decide) k) ?_
  refine sh_mp (fun w Z k => sh_istore_n dc_Mod_remove_1 rfl (by decide) k) ?_
  refine sh_mlv [1, 2, 3, 0] rfl ?_
  exact k9
theorem mb_Mod_remove_2_1 {mq : Nat} {A : Nat → Nat} {I I9 : sh_II} {D D9 : sh_DD} {v9 : Option Value} {t : Nat} {s : Nat} {i : Nat} (ht : t < 6) (hs : s < 8) (hi : i < 6) (c0_14 : (I 18 ((6 * s) + i)) = (nI t)) (k9 : sh_mW mq A md_Mod_remove (36, [(0, .ref mq), (1, .int (nI t)), (2, .int (nI s)), (4, .int (nI i))], []) (sh_u2 I 19 s ((I 19 s) - 1)) D 0 0 v9 I9 D9) : sh_mW mq A md_Mod_remove (2, [(0, .ref mq), (1, .int (nI t)), (2, .int (nI s)), (3, .int (nI i))], []) I D 0 0 v9 I9 D9 := by
  refine sh_mp (fun w Z k => sh_aload_n dc_Mod_remove_2 rfl rfl k) ?_
  refine sh_mget 18 dc_Mod_remove_3 (by decide) fl_Mod_60 rfl rfl rfl rfl ?_
  refine sh_mp (fun w Z k => sh_bipush (v := 6) dc_Mod_remove_6 (by decide) k) ?_
  refine sh_mp (fun w Z k => sh_iload_n dc_Mod_remove_8 rfl rfl k) ?_
  refine sh_mp (fun w Z k => sh_imul dc_Mod_remove_9 k) ?_
  refine sh_mp (fun w Z k => sh_iload_n dc_Mod_remove_10 rfl rfl k) ?_
  refine sh_mp (fun w Z k => sh_iadd dc_Mod_remove_11 k) ?_
  refine sh_miald 18 (l := 48) (k := (6 * s) + i) dc_Mod_remove_12 (by decide) (sh_nadd (sh_nmul rfl rfl) rfl) (by omega) (by decide) ?_
  refine sh_mp (fun w Z k => sh_iload_n dc_Mod_remove_13 rfl rfl k) ?_
  refine sh_mp (fun w Z k => sh_icmp_eq (tgt := 23) dc_Mod_remove_14 (by decide) (fun _ => k) (fun z => absurd c0_14 z)) ?_
  refine sh_mp (fun w Z k => sh_aload_n dc_Mod_remove_23 rfl rfl k) ?_
  refine sh_mget 19 dc_Mod_remove_24 (by decide) fl_Mod_63 rfl rfl rfl rfl ?_
  refine sh_mp (fun w Z k => sh_iload_n dc_Mod_remove_27 rfl rfl k) ?_
  refine sh_mp (fun w Z k => sh_dup2 dc_Mod_remove_28 rfl rfl k) ?_
  refine sh_miald 19 (l := 8) (k := s) dc_Mod_remove_29 (by decide) rfl (by omega) (by decide) ?_
  refine sh_mp (fun w Z k => sh_iconst (v := 1) dc_Mod_remove_30 (by decide) k) ?_
  refine sh_mp (fun w Z k => sh_isub dc_Mod_remove_31 k) ?_
  refine sh_miast 19 (l := 8) (k := s) dc_Mod_remove_32 (by decide) rfl (by omega) (by decide) ?_
  refine sh_mp (fun w Z k => sh_iload_n dc_Mod_remove_33 rfl rfl k) ?_
  refine sh_mp (fun w Z k => sh_istore dc_Mod_remove_34 (by decide) k) ?_
  refine sh_mlv [1, 2, 3, 0] rfl ?_
  exact k9
theorem mb_Mod_remove_2_2 {mq : Nat} {A : Nat → Nat} {I I9 : sh_II} {D D9 : sh_DD} {v9 : Option Value} {t : Nat} {s : Nat} {i : Nat} (ht : t < 6) (hs : s < 8) (hi : i < 6) (c0_14 : ¬ (I 18 ((6 * s) + i)) = (nI t)) (k9 : sh_mW mq A md_Mod_remove (2, [(0, .ref mq), (1, .int (nI t)), (2, .int (nI s)), (3, .int (nI (i + 1)))], []) I D 0 0 v9 I9 D9) : sh_mW mq A md_Mod_remove (2, [(0, .ref mq), (1, .int (nI t)), (2, .int (nI s)), (3, .int (nI i))], []) I D 0 0 v9 I9 D9 := by
  refine sh_mp (fun w Z k => sh_aload_n dc_Mod_remove_2 rfl rfl k) ?_
  refine sh_mget 18 dc_Mod_remove_3 (by decide) fl_Mod_60 rfl rfl rfl rfl ?_
  refine sh_mp (fun w Z k => sh_bipush (v := 6) dc_Mod_remove_6 (by decide) k) ?_
  refine sh_mp (fun w Z k => sh_iload_n dc_Mod_remove_8 rfl rfl k) ?_
  refine sh_mp (fun w Z k => sh_imul dc_Mod_remove_9 k) ?_
  refine sh_mp (fun w Z k => sh_iload_n dc_Mod_remove_10 rfl rfl k) ?_
  refine sh_mp (fun w Z k => sh_iadd dc_Mod_remove_11 k) ?_
  refine sh_miald 18 (l := 48) (k := (6 * s) + i) dc_Mod_remove_12 (by decide) (sh_nadd (sh_nmul rfl rfl) rfl) (by omega) (by decide) ?_
  refine sh_mp (fun w Z k => sh_iload_n dc_Mod_remove_13 rfl rfl k) ?_
  refine sh_mp (fun w Z k => sh_icmp_eq (tgt := 23) dc_Mod_remove_14 (by decide) (fun z => absurd z c0_14) (fun _ => k)) ?_
  refine sh_mp (fun w Z k => sh_iinc (v := nI (i + 1)) dc_Mod_remove_17 rfl (sh_nadd rfl (rfl : (1 : Int32) = nI 1)) (by decide) k) ?_
  refine sh_mp (fun w Z k => sh_goto_ (tgt := 2) dc_Mod_remove_20 (by decide) k) ?_
  refine sh_mlv [1, 2, 3, 0] rfl ?_
  exact k9
theorem mb_Mod_remove_e_36_1 {mq : Nat} {A : Nat → Nat} {I : sh_II} {D : sh_DD} {t : Nat} {s : Nat} {j : Nat} (ht : t < 6) (hs : s < 8) (hx : (I 19 s) ≤ (nI j)) : sh_mW mq A md_Mod_remove (36, [(0, .ref mq), (1, .int (nI t)), (2, .int (nI s)), (4, .int (nI j))], []) I D 0 0 none (sh_u2 I 5 t (-1)) D := by
  refine sh_mp (fun w Z k => sh_iload dc_Mod_remove_36 rfl k) ?_
  refine sh_mp (fun w Z k => sh_aload_n dc_Mod_remove_38 rfl rfl k) ?_
  refine sh_mget 19 dc_Mod_remove_39 (by decide) fl_Mod_63 rfl rfl rfl rfl ?_
  refine sh_mp (fun w Z k => sh_iload_n dc_Mod_remove_42 rfl rfl k) ?_
  refine sh_miald 19 (l := 8) (k := s) dc_Mod_remove_43 (by decide) rfl (by omega) (by decide) ?_
  refine sh_mp (fun w Z k => sh_icmp_ge (tgt := 79) dc_Mod_remove_44 (by decide) (fun _ => k) (fun z => absurd hx z)) ?_
  refine sh_mp (fun w Z k => sh_aload_n dc_Mod_remove_79 rfl rfl k) ?_
  refine sh_mget 5 dc_Mod_remove_80 (by decide) fl_Mod_24 rfl rfl rfl rfl ?_
  refine sh_mp (fun w Z k => sh_iload_n dc_Mod_remove_83 rfl rfl k) ?_
  refine sh_mp (fun w Z k => sh_iconst (v := (-1)) dc_Mod_remove_84 (by decide) k) ?_
  refine sh_miast 5 (l := 6) (k := t) dc_Mod_remove_85 (by decide) rfl (by omega) (by decide) ?_
  exact sh_me (fun w => sh_return dc_Mod_remove_86 rfl (by decide) (by decide))
theorem mb_Mod_remove_36_1 {mq : Nat} {A : Nat → Nat} {I I9 : sh_II} {D D9 : sh_DD} {v9 : Option Value} {t : Nat} {s : Nat} {j : Nat} (ht : t < 6) (hs : s < 8) (hj : j < 5) (hx : ¬ (I 19 s) ≤ (nI j)) (k9 : sh_mW mq A md_Mod_remove (36, [(0, .ref mq), (1, .int (nI t)), (2, .int (nI s)), (4, .int (nI (j + 1)))], []) (sh_u2 I 18 ((6 * s) + j) (I 18 (((6 * s) + j) + 1))) D 0 0 v9 I9 D9) : sh_mW mq A md_Mod_remove (36, [(0, .ref mq), (1, .int (nI t)), (2, .int (nI s)), (4, .int (nI j))], []) I D 0 0 v9 I9 D9 := by
  refine sh_mp (fun w Z k => sh_iload dc_Mod_remove_36 rfl k) ?_
  refine sh_mp (fun w Z k => sh_aload_n dc_Mod_remove_38 rfl rfl k) ?_
  refine sh_mget 19 dc_Mod_remove_39 (by decide) fl_Mod_63 rfl rfl rfl rfl ?_
  refine sh_mp (fun w Z k => sh_iload_n dc_Mod_remove_42 rfl rfl k) ?_
  refine sh_miald 19 (l := 8) (k := s) dc_Mod_remove_43 (by decide) rfl (by omega) (by decide) ?_
  refine sh_mp (fun w Z k => sh_icmp_ge (tgt := 79) dc_Mod_remove_44 (by decide) (fun z => absurd z hx) (fun _ => k)) ?_
  refine sh_mp (fun w Z k => sh_aload_n dc_Mod_remove_47 rfl rfl k) ?_
  refine sh_mget 18 dc_Mod_remove_48 (by decide) fl_Mod_60 rfl rfl rfl rfl ?_
  refine sh_mp (fun w Z k => sh_bipush (v := 6) dc_Mod_remove_51 (by decide) k) ?_
  refine sh_mp (fun w Z k => sh_iload_n dc_Mod_remove_53 rfl rfl k) ?_
  refine sh_mp (fun w Z k => sh_imul dc_Mod_remove_54 k) ?_
  refine sh_mp (fun w Z k => sh_iload dc_Mod_remove_55 rfl k) ?_
  refine sh_mp (fun w Z k => sh_iadd dc_Mod_remove_57 k) ?_
  refine sh_mp (fun w Z k => sh_aload_n dc_Mod_remove_58 rfl rfl k) ?_
  refine sh_mget 18 dc_Mod_remove_59 (by decide) fl_Mod_60 rfl rfl rfl rfl ?_
  refine sh_mp (fun w Z k => sh_bipush (v := 6) dc_Mod_remove_62 (by decide) k) ?_
  refine sh_mp (fun w Z k => sh_iload_n dc_Mod_remove_64 rfl rfl k) ?_
  refine sh_mp (fun w Z k => sh_imul dc_Mod_remove_65 k) ?_
  refine sh_mp (fun w Z k => sh_iload dc_Mod_remove_66 rfl k) ?_
  refine sh_mp (fun w Z k => sh_iadd dc_Mod_remove_68 k) ?_
  refine sh_mp (fun w Z k => sh_iconst (v := 1) dc_Mod_remove_69 (by decide) k) ?_
  refine sh_mp (fun w Z k => sh_iadd dc_Mod_remove_70 k) ?_
  refine sh_miald 18 (l := 48) (k := ((6 * s) + j) + 1) dc_Mod_remove_71 (by decide) (sh_nadd (sh_nadd (sh_nmul rfl rfl) rfl) rfl) (by omega) (by decide) ?_
  refine sh_miast 18 (l := 48) (k := (6 * s) + j) dc_Mod_remove_72 (by decide) (sh_nadd (sh_nmul rfl rfl) rfl) (by omega) (by decide) ?_
  refine sh_mp (fun w Z k => sh_iinc (v := nI (j + 1)) dc_Mod_remove_73 rfl (sh_nadd rfl (rfl : (1 : Int32) = nI 1)) (by decide) k) ?_
  refine sh_mp (fun w Z k => sh_goto_ (tgt := 36) dc_Mod_remove_76 (by decide) k) ?_
  refine sh_mlv [1, 2, 3, 0] rfl ?_
  exact k9
theorem mb_Mod_next_p_0_1 {mq : Nat} {A : Nat → Nat} {I I9 : sh_II} {D D9 : sh_DD} {v9 : Option Value} {s : Nat} {b : Nat} (hs : s < 8) (hb : b < 6) (eb : I 18 (6 * s) = nI b) (k9 : sh_mW mq A md_Mod_next (12, [(0, .ref mq), (1, .int (nI s)), (2, .int (I 18 (6 * s))), (3, .int 1)], []) I D 0 0 v9 I9 D9) : sh_mW mq A md_Mod_next (0, [(0, .ref mq), (1, .int (nI s))], []) I D 0 0 v9 I9 D9 := by
  refine sh_mp (fun w Z k => sh_aload_n dc_Mod_next_0 rfl rfl k) ?_
  refine sh_mget 18 dc_Mod_next_1 (by decide) fl_Mod_60 rfl rfl rfl rfl ?_
  refine sh_mp (fun w Z k => sh_bipush (v := 6) dc_Mod_next_4 (by decide) k) ?_
  refine sh_mp (fun w Z k => sh_iload_n dc_Mod_next_6 rfl rfl k) ?_
  refine sh_mp (fun w Z k => sh_imul dc_Mod_next_7 k) ?_
  refine sh_miald 18 (l := 48) (k := 6 * s) dc_Mod_next_8 (by decide) (sh_nmul rfl rfl) (by omega) (by decide) ?_
  refine sh_mp (fun w Z k => sh_istore_n dc_Mod_next_9 rfl (by decide) k) ?_
  refine sh_mp (fun w Z k => sh_iconst (v := 1) dc_Mod_next_10 (by decide) k) ?_
  refine sh_mp (fun w Z k => sh_istore_n dc_Mod_next_11 rfl (by decide) k) ?_
  refine sh_mlv [2, 3, 1, 0] rfl ?_
  exact k9
theorem mb_Mod_next_e_12_1 {mq : Nat} {A : Nat → Nat} {I : sh_II} {D : sh_DD} {s : Nat} {b : Nat} {i : Nat} (hs : s < 8) (hb : b < 6) (hx : (I 19 s) ≤ (nI i)) : sh_mW mq A md_Mod_next (12, [(0, .ref mq), (1, .int (nI s)), (2, .int (nI b)), (3, .int (nI i))], []) I D 0 0 (some (.int (nI b))) I D := by
  refine sh_mp (fun w Z k => sh_iload_n dc_Mod_next_12 rfl rfl k) ?_
  refine sh_mp (fun w Z k => sh_aload_n dc_Mod_next_13 rfl rfl k) ?_
  refine sh_mget 19 dc_Mod_next_14 (by decide) fl_Mod_63 rfl rfl rfl rfl ?_
  refine sh_mp (fun w Z k => sh_iload_n dc_Mod_next_17 rfl rfl k) ?_
  refine sh_miald 19 (l := 8) (k := s) dc_Mod_next_18 (by decide) rfl (by omega) (by decide) ?_
  refine sh_mp (fun w Z k => sh_icmp_ge (tgt := 101) dc_Mod_next_19 (by decide) (fun _ => k) (fun z => absurd hx z)) ?_
  refine sh_mp (fun w Z k => sh_iload_n dc_Mod_next_101 rfl rfl k) ?_
  exact sh_me (fun w => sh_ireturn dc_Mod_next_102 rfl rfl (by decide) (by decide))
theorem mb_Mod_next_12_1 {mq : Nat} {A : Nat → Nat} {I I9 : sh_II} {D D9 : sh_DD} {v9 : Option Value} {s : Nat} {b : Nat} {i : Nat} {u : Nat} (hs : s < 8) (hb : b < 6) (hi : i < 6) (hx : ¬ (I 19 s) ≤ (nI i)) (hu : u < 6) (er : I 18 ((6 * s) + i) = nI u) (c0_42 : (I 12 s) = 3) (c1_59 : 0 < (Op.cmpValue (FP.dcmp (D 3 u) (D 3 b)) .l)) (k9 : sh_mW mq A md_Mod_next (12, [(0, .ref mq), (1, .int (nI s)), (2, .int (I 18 ((6 * s) + i))), (3, .int (nI (i + 1)))], []) I D 0 0 v9 I9 D9) : sh_mW mq A md_Mod_next (12, [(0, .ref mq), (1, .int (nI s)), (2, .int (nI b)), (3, .int (nI i))], []) I D 0 0 v9 I9 D9 := by
  refine sh_mp (fun w Z k => sh_iload_n dc_Mod_next_12 rfl rfl k) ?_
  refine sh_mp (fun w Z k => sh_aload_n dc_Mod_next_13 rfl rfl k) ?_
  refine sh_mget 19 dc_Mod_next_14 (by decide) fl_Mod_63 rfl rfl rfl rfl ?_
  refine sh_mp (fun w Z k => sh_iload_n dc_Mod_next_17 rfl rfl k) ?_
  refine sh_miald 19 (l := 8) (k := s) dc_Mod_next_18 (by decide) rfl (by omega) (by decide) ?_
  refine sh_mp (fun w Z k => sh_icmp_ge (tgt := 101) dc_Mod_next_19 (by decide) (fun z => absurd z hx) (fun _ => k)) ?_
  refine sh_mp (fun w Z k => sh_aload_n dc_Mod_next_22 rfl rfl k) ?_
  refine sh_mget 18 dc_Mod_next_23 (by decide) fl_Mod_60 rfl rfl rfl rfl ?_
  refine sh_mp (fun w Z k => sh_bipush (v := 6) dc_Mod_next_26 (by decide) k) ?_
  refine sh_mp (fun w Z k => sh_iload_n dc_Mod_next_28 rfl rfl k) ?_
  refine sh_mp (fun w Z k => sh_imul dc_Mod_next_29 k) ?_
  refine sh_mp (fun w Z k => sh_iload_n dc_Mod_next_30 rfl rfl k) ?_
  refine sh_mp (fun w Z k => sh_iadd dc_Mod_next_31 k) ?_
  refine sh_miald 18 (l := 48) (k := (6 * s) + i) dc_Mod_next_32 (by decide) (sh_nadd (sh_nmul rfl rfl) rfl) (by omega) (by decide) ?_
  refine sh_mp (fun w Z k => sh_istore dc_Mod_next_33 (by decide) k) ?_
  refine sh_mp (fun w Z k => sh_aload_n dc_Mod_next_35 rfl rfl k) ?_
  refine sh_mget 12 dc_Mod_next_36 (by decide) fl_Mod_42 rfl rfl rfl rfl ?_
  refine sh_mp (fun w Z k => sh_iload_n dc_Mod_next_39 rfl rfl k) ?_
  refine sh_miald 12 (l := 8) (k := s) dc_Mod_next_40 (by decide) rfl (by omega) (by decide) ?_
  refine sh_mp (fun w Z k => sh_iconst (v := 3) dc_Mod_next_41 (by decide) k) ?_
  refine sh_mp (fun w Z k => sh_icmp_ne (tgt := 62) dc_Mod_next_42 (by decide) (fun z => absurd c0_42 z) (fun _ => k)) ?_
  refine sh_mp (fun w Z k => sh_aload_n dc_Mod_next_45 rfl rfl k) ?_
  refine sh_mget 3 dc_Mod_next_46 (by decide) fl_Mod_16 rfl rfl rfl rfl ?_
  refine sh_mp (fun w Z k => sh_iload dc_Mod_next_49 rfl k) ?_
  refine sh_mdald 3 (l := 6) (k := u) dc_Mod_next_51 (by decide) er (by omega) (by decide) ?_
  refine sh_mp (fun w Z k => sh_aload_n dc_Mod_next_52 rfl rfl k) ?_
  refine sh_mget 3 dc_Mod_next_53 (by decide) fl_Mod_16 rfl rfl rfl rfl ?_
  refine sh_mp (fun w Z k => sh_iload_n dc_Mod_next_56 rfl rfl k) ?_
  refine sh_mdald 3 (l := 6) (k := b) dc_Mod_next_57 (by decide) rfl (by omega) (by decide) ?_
  refine sh_mp (fun w Z k => sh_dcmp dc_Mod_next_58 k) ?_
  refine sh_mp (fun w Z k => sh_if_gt (tgt := 92) dc_Mod_next_59 (by decide) (fun _ => k) (fun z => absurd c1_59 z)) ?_
  refine sh_mp (fun w Z k => sh_iload dc_Mod_next_92 rfl k) ?_
  refine sh_mp (fun w Z k => sh_istore_n dc_Mod_next_94 rfl (by decide) k) ?_
  refine sh_mp (fun w Z k => sh_iinc (v := nI (i + 1)) dc_Mod_next_95 rfl (sh_nadd rfl (rfl : (1 : Int32) = nI 1)) (by decide) k) ?_
  refine sh_mp (fun w Z k => sh_goto_ (tgt := 12) dc_Mod_next_98 (by decide) k) ?_
  refine sh_mlv [3, 4, 1, 0] rfl ?_
  exact k9
theorem mb_Mod_next_12_2 {mq : Nat} {A : Nat → Nat} {I I9 : sh_II} {D D9 : sh_DD} {v9 : Option Value} {s : Nat} {b : Nat} {i : Nat} {u : Nat} (hs : s < 8) (hb : b < 6) (hi : i < 6) (hx : ¬ (I 19 s) ≤ (nI i)) (hu : u < 6) (er : I 18 ((6 * s) + i) = nI u) (c0_42 : (I 12 s) = 3) (c1_59 : ¬ 0 < (Op.cmpValue (FP.dcmp (D 3 u) (D 3 b)) .l)) (c2_69 : (I 12 s) = 5) (c3_78 : (I 6 b) = 0) (c4_89 : (I 6 u) = 1) (k9 : sh_mW mq A md_Mod_next (12, [(0, .ref mq), (1, .int (nI s)), (2, .int (I 18 ((6 * s) + i))), (3, .int (nI (i + 1)))], []) I D 0 0 v9 I9 D9) : sh_mW mq A md_Mod_next (12, [(0, .ref mq), (1, .int (nI s)), (2, .int (nI b)), (3, .int (nI i))], []) I D 0 0 v9 I9 D9 := by
  refine sh_mp (fun w Z k => sh_iload_n dc_Mod_next_12 rfl rfl k) ?_
  refine sh_mp (fun w Z k => sh_aload_n dc_Mod_next_13 rfl rfl k) ?_
  refine sh_mget 19 dc_Mod_next_14 (by decide) fl_Mod_63 rfl rfl rfl rfl ?_
  refine sh_mp (fun w Z k => sh_iload_n dc_Mod_next_17 rfl rfl k) ?_
  refine sh_miald 19 (l := 8) (k := s) dc_Mod_next_18 (by decide) rfl (by omega) (by decide) ?_
  refine sh_mp (fun w Z k => sh_icmp_ge (tgt := 101) dc_Mod_next_19 (by decide) (fun z => absurd z hx) (fun _ => k)) ?_
  refine sh_mp (fun w Z k => sh_aload_n dc_Mod_next_22 rfl rfl k) ?_
  refine sh_mget 18 dc_Mod_next_23 (by decide) fl_Mod_60 rfl rfl rfl rfl ?_
  refine sh_mp (fun w Z k => sh_bipush (v := 6) dc_Mod_next_26 (by decide) k) ?_
  refine sh_mp (fun w Z k => sh_iload_n dc_Mod_next_28 rfl rfl k) ?_
  refine sh_mp (fun w Z k => sh_imul dc_Mod_next_29 k) ?_
  refine sh_mp (fun w Z k => sh_iload_n dc_Mod_next_30 rfl rfl k) ?_
  refine sh_mp (fun w Z k => sh_iadd dc_Mod_next_31 k) ?_
  refine sh_miald 18 (l := 48) (k := (6 * s) + i) dc_Mod_next_32 (by decide) (sh_nadd (sh_nmul rfl rfl) rfl) (by omega) (by decide) ?_
  refine sh_mp (fun w Z k => sh_istore dc_Mod_next_33 (by decide) k) ?_
  refine sh_mp (fun w Z k => sh_aload_n dc_Mod_next_35 rfl rfl k) ?_
  refine sh_mget 12 dc_Mod_next_36 (by decide) fl_Mod_42 rfl rfl rfl rfl ?_
  refine sh_mp (fun w Z k => sh_iload_n dc_Mod_next_39 rfl rfl k) ?_
  refine sh_miald 12 (l := 8) (k := s) dc_Mod_next_40 (by decide) rfl (by omega) (by decide) ?_
  refine sh_mp (fun w Z k => sh_iconst (v := 3) dc_Mod_next_41 (by decide) k) ?_
  refine sh_mp (fun w Z k => sh_icmp_ne (tgt := 62) dc_Mod_next_42 (by decide) (fun z => absurd c0_42 z) (fun _ => k)) ?_
  refine sh_mp (fun w Z k => sh_aload_n dc_Mod_next_45 rfl rfl k) ?_
  refine sh_mget 3 dc_Mod_next_46 (by decide) fl_Mod_16 rfl rfl rfl rfl ?_
  refine sh_mp (fun w Z k => sh_iload dc_Mod_next_49 rfl k) ?_
  refine sh_mdald 3 (l := 6) (k := u) dc_Mod_next_51 (by decide) er (by omega) (by decide) ?_
  refine sh_mp (fun w Z k => sh_aload_n dc_Mod_next_52 rfl rfl k) ?_
  refine sh_mget 3 dc_Mod_next_53 (by decide) fl_Mod_16 rfl rfl rfl rfl ?_
  refine sh_mp (fun w Z k => sh_iload_n dc_Mod_next_56 rfl rfl k) ?_
  refine sh_mdald 3 (l := 6) (k := b) dc_Mod_next_57 (by decide) rfl (by omega) (by decide) ?_
  refine sh_mp (fun w Z k => sh_dcmp dc_Mod_next_58 k) ?_
  refine sh_mp (fun w Z k => sh_if_gt (tgt := 92) dc_Mod_next_59 (by decide) (fun z => absurd z c1_59) (fun _ => k)) ?_
  refine sh_mp (fun w Z k => sh_aload_n dc_Mod_next_62 rfl rfl k) ?_
  refine sh_mget 12 dc_Mod_next_63 (by decide) fl_Mod_42 rfl rfl rfl rfl ?_
  refine sh_mp (fun w Z k => sh_iload_n dc_Mod_next_66 rfl rfl k) ?_
  refine sh_miald 12 (l := 8) (k := s) dc_Mod_next_67 (by decide) rfl (by omega) (by decide) ?_
  refine sh_mp (fun w Z k => sh_iconst (v := 5) dc_Mod_next_68 (by decide) k) ?_
  refine sh_mp (fun w Z k => sh_icmp_ne (tgt := 95) dc_Mod_next_69 (by decide) (fun z => absurd c2_69 z) (fun _ => k)) ?_
  refine sh_mp (fun w Z k => sh_aload_n dc_Mod_next_72 rfl rfl k) ?_
  refine sh_mget 6 dc_Mod_next_73 (by decide) fl_Mod_27 rfl rfl rfl rfl ?_
  refine sh_mp (fun w Z k => sh_iload_n dc_Mod_next_76 rfl rfl k) ?_
  refine sh_miald 6 (l := 6) (k := b) dc_Mod_next_77 (by decide) rfl (by omega) (by decide) ?_
  refine sh_mp (fun w Z k => sh_if_ne (tgt := 95) dc_Mod_next_78 (by decide) (fun z => absurd c3_78 z) (fun _ => k)) ?_
  refine sh_mp (fun w Z k => sh_aload_n dc_Mod_next_81 rfl rfl k) ?_
  refine sh_mget 6 dc_Mod_next_82 (by decide) fl_Mod_27 rfl rfl rfl rfl ?_
  refine sh_mp (fun w Z k => sh_iload dc_Mod_next_85 rfl k) ?_
  refine sh_miald 6 (l := 6) (k := u) dc_Mod_next_87 (by decide) er (by omega) (by decide) ?_
  refine sh_mp (fun w Z k => sh_iconst (v := 1) dc_Mod_next_88 (by decide) k) ?_
  refine sh_mp (fun w Z k => sh_icmp_ne (tgt := 95) dc_Mod_next_89 (by decide) (fun z => absurd c4_89 z) (fun _ => k)) ?_
  refine sh_mp (fun w Z k => sh_iload dc_Mod_next_92 rfl k) ?_
  refine sh_mp (fun w Z k => sh_istore_n dc_Mod_next_94 rfl (by decide) k) ?_
  refine sh_mp (fun w Z k => sh_iinc (v := nI (i + 1)) dc_Mod_next_95 rfl (sh_nadd rfl (rfl : (1 : Int32) = nI 1)) (by decide) k) ?_
  refine sh_mp (fun w Z k => sh_goto_ (tgt := 12) dc_Mod_next_98 (by decide) k) ?_
  refine sh_mlv [3, 4, 1, 0] rfl ?_
  exact k9
theorem mb_Mod_next_12_3 {mq : Nat} {A : Nat → Nat} {I I9 : sh_II} {D D9 : sh_DD} {v9 : Option Value} {s : Nat} {b : Nat} {i : Nat} {u : Nat} (hs : s < 8) (hb : b < 6) (hi : i < 6) (hx : ¬ (I 19 s) ≤ (nI i)) (hu : u < 6) (er : I 18 ((6 * s) + i) = nI u) (c0_42 : (I 12 s) = 3) (c1_59 : ¬ 0 < (Op.cmpValue (FP.dcmp (D 3 u) (D 3 b)) .l)) (c2_69 : (I 12 s) = 5) (c3_78 : (I 6 b) = 0) (c4_89 : ¬ (I 6 u) = 1) (k9 : sh_mW mq A md_Mod_next (12, [(0, .ref mq), (1, .int (nI s)), (2, .int (nI b)), (3, .int (nI (i + 1)))], []) I D 0 0 v9 I9 D9) : sh_mW mq A md_Mod_next (12, [(0, .ref mq), (1, .int (nI s)), (2, .int (nI b)), (3, .int (nI i))], []) I D 0 0 v9 I9 D9 := by
  refine sh_mp (fun w Z k => sh_iload_n dc_Mod_next_12 rfl rfl k) ?_
  refine sh_mp (fun w Z k => sh_aload_n dc_Mod_next_13 rfl rfl k) ?_
  refine sh_mget 19 dc_Mod_next_14 (by decide) fl_Mod_63 rfl rfl rfl rfl ?_
  refine sh_mp (fun w Z k => sh_iload_n dc_Mod_next_17 rfl rfl k) ?_
  refine sh_miald 19 (l := 8) (k := s) dc_Mod_next_18 (by decide) rfl (by omega) (by decide) ?_
  refine sh_mp (fun w Z k => sh_icmp_ge (tgt := 101) dc_Mod_next_19 (by decide) (fun z => absurd z hx) (fun _ => k)) ?_
  refine sh_mp (fun w Z k => sh_aload_n dc_Mod_next_22 rfl rfl k) ?_
  refine sh_mget 18 dc_Mod_next_23 (by decide) fl_Mod_60 rfl rfl rfl rfl ?_
  refine sh_mp (fun w Z k => sh_bipush (v := 6) dc_Mod_next_26 (by decide) k) ?_
  refine sh_mp (fun w Z k => sh_iload_n dc_Mod_next_28 rfl rfl k) ?_
  refine sh_mp (fun w Z k => sh_imul dc_Mod_next_29 k) ?_
  refine sh_mp (fun w Z k => sh_iload_n dc_Mod_next_30 rfl rfl k) ?_
  refine sh_mp (fun w Z k => sh_iadd dc_Mod_next_31 k) ?_
  refine sh_miald 18 (l := 48) (k := (6 * s) + i) dc_Mod_next_32 (by decide) (sh_nadd (sh_nmul rfl rfl) rfl) (by omega) (by decide) ?_
  refine sh_mp (fun w Z k => sh_istore dc_Mod_next_33 (by decide) k) ?_
  refine sh_mp (fun w Z k => sh_aload_n dc_Mod_next_35 rfl rfl k) ?_
  refine sh_mget 12 dc_Mod_next_36 (by decide) fl_Mod_42 rfl rfl rfl rfl ?_
  refine sh_mp (fun w Z k => sh_iload_n dc_Mod_next_39 rfl rfl k) ?_
  refine sh_miald 12 (l := 8) (k := s) dc_Mod_next_40 (by decide) rfl (by omega) (by decide) ?_
  refine sh_mp (fun w Z k => sh_iconst (v := 3) dc_Mod_next_41 (by decide) k) ?_
  refine sh_mp (fun w Z k => sh_icmp_ne (tgt := 62) dc_Mod_next_42 (by decide) (fun z => absurd c0_42 z) (fun _ => k)) ?_
  refine sh_mp (fun w Z k => sh_aload_n dc_Mod_next_45 rfl rfl k) ?_
  refine sh_mget 3 dc_Mod_next_46 (by decide) fl_Mod_16 rfl rfl rfl rfl ?_
  refine sh_mp (fun w Z k => sh_iload dc_Mod_next_49 rfl k) ?_
  refine sh_mdald 3 (l := 6) (k := u) dc_Mod_next_51 (by decide) er (by omega) (by decide) ?_
  refine sh_mp (fun w Z k => sh_aload_n dc_Mod_next_52 rfl rfl k) ?_
  refine sh_mget 3 dc_Mod_next_53 (by decide) fl_Mod_16 rfl rfl rfl rfl ?_
  refine sh_mp (fun w Z k => sh_iload_n dc_Mod_next_56 rfl rfl k) ?_
  refine sh_mdald 3 (l := 6) (k := b) dc_Mod_next_57 (by decide) rfl (by omega) (by decide) ?_
  refine sh_mp (fun w Z k => sh_dcmp dc_Mod_next_58 k) ?_
  refine sh_mp (fun w Z k => sh_if_gt (tgt := 92) dc_Mod_next_59 (by decide) (fun z => absurd z c1_59) (fun _ => k)) ?_
  refine sh_mp (fun w Z k => sh_aload_n dc_Mod_next_62 rfl rfl k) ?_
  refine sh_mget 12 dc_Mod_next_63 (by decide) fl_Mod_42 rfl rfl rfl rfl ?_
  refine sh_mp (fun w Z k => sh_iload_n dc_Mod_next_66 rfl rfl k) ?_
  refine sh_miald 12 (l := 8) (k := s) dc_Mod_next_67 (by decide) rfl (by omega) (by decide) ?_
  refine sh_mp (fun w Z k => sh_iconst (v := 5) dc_Mod_next_68 (by decide) k) ?_
  refine sh_mp (fun w Z k => sh_icmp_ne (tgt := 95) dc_Mod_next_69 (by decide) (fun z => absurd c2_69 z) (fun _ => k)) ?_
  refine sh_mp (fun w Z k => sh_aload_n dc_Mod_next_72 rfl rfl k) ?_
  refine sh_mget 6 dc_Mod_next_73 (by decide) fl_Mod_27 rfl rfl rfl rfl ?_
  refine sh_mp (fun w Z k => sh_iload_n dc_Mod_next_76 rfl rfl k) ?_
  refine sh_miald 6 (l := 6) (k := b) dc_Mod_next_77 (by decide) rfl (by omega) (by decide) ?_
  refine sh_mp (fun w Z k => sh_if_ne (tgt := 95) dc_Mod_next_78 (by decide) (fun z => absurd c3_78 z) (fun _ => k)) ?_
  refine sh_mp (fun w Z k => sh_aload_n dc_Mod_next_81 rfl rfl k) ?_
  refine sh_mget 6 dc_Mod_next_82 (by decide) fl_Mod_27 rfl rfl rfl rfl ?_
  refine sh_mp (fun w Z k => sh_iload dc_Mod_next_85 rfl k) ?_
  refine sh_miald 6 (l := 6) (k := u) dc_Mod_next_87 (by decide) er (by omega) (by decide) ?_
  refine sh_mp (fun w Z k => sh_iconst (v := 1) dc_Mod_next_88 (by decide) k) ?_
  refine sh_mp (fun w Z k => sh_icmp_ne (tgt := 95) dc_Mod_next_89 (by decide) (fun _ => k) (fun z => absurd z c4_89)) ?_
  refine sh_mp (fun w Z k => sh_iinc (v := nI (i + 1)) dc_Mod_next_95 rfl (sh_nadd rfl (rfl : (1 : Int32) = nI 1)) (by decide) k) ?_
  refine sh_mp (fun w Z k => sh_goto_ (tgt := 12) dc_Mod_next_98 (by decide) k) ?_
  refine sh_mlv [2, 3, 4, 0] rfl ?_
  exact k9
theorem mb_Mod_next_12_4 {mq : Nat} {A : Nat → Nat} {I I9 : sh_II} {D D9 : sh_DD} {v9 : Option Value} {s : Nat} {b : Nat} {i : Nat} {u : Nat} (hs : s < 8) (hb : b < 6) (hi : i < 6) (hx : ¬ (I 19 s) ≤ (nI i)) (hu : u < 6) (er : I 18 ((6 * s) + i) = nI u) (c0_42 : (I 12 s) = 3) (c1_59 : ¬ 0 < (Op.cmpValue (FP.dcmp (D 3 u) (D 3 b)) .l)) (c2_69 : (I 12 s) = 5) (c3_78 : ¬ (I 6 b) = 0) (k9 : sh_mW mq A md_Mod_next (12, [(0, .ref mq), (1, .int (nI s)), (2, .int (nI b)), (3, .int (nI (i + 1)))], []) I D 0 0 v9 I9 D9) : sh_mW mq A md_Mod_next (12, [(0, .ref mq), (1, .int (nI s)), (2, .int (nI b)), (3, .int (nI i))], []) I D 0 0 v9 I9 D9 := by
  refine sh_mp (fun w Z k => sh_iload_n dc_Mod_next_12 rfl rfl k) ?_
  refine sh_mp (fun w Z k => sh_aload_n dc_Mod_next_13 rfl rfl k) ?_
  refine sh_mget 19 dc_Mod_next_14 (by decide) fl_Mod_63 rfl rfl rfl rfl ?_
  refine sh_mp (fun w Z k => sh_iload_n dc_Mod_next_17 rfl rfl k) ?_
  refine sh_miald 19 (l := 8) (k := s) dc_Mod_next_18 (by decide) rfl (by omega) (by decide) ?_
  refine sh_mp (fun w Z k => sh_icmp_ge (tgt := 101) dc_Mod_next_19 (by decide) (fun z => absurd z hx) (fun _ => k)) ?_
  refine sh_mp (fun w Z k => sh_aload_n dc_Mod_next_22 rfl rfl k) ?_
  refine sh_mget 18 dc_Mod_next_23 (by decide) fl_Mod_60 rfl rfl rfl rfl ?_
  refine sh_mp (fun w Z k => sh_bipush (v := 6) dc_Mod_next_26 (by decide) k) ?_
  refine sh_mp (fun w Z k => sh_iload_n dc_Mod_next_28 rfl rfl k) ?_
  refine sh_mp (fun w Z k => sh_imul dc_Mod_next_29 k) ?_
  refine sh_mp (fun w Z k => sh_iload_n dc_Mod_next_30 rfl rfl k) ?_
  refine sh_mp (fun w Z k => sh_iadd dc_Mod_next_31 k) ?_
  refine sh_miald 18 (l := 48) (k := (6 * s) + i) dc_Mod_next_32 (by decide) (sh_nadd (sh_nmul rfl rfl) rfl) (by omega) (by decide) ?_
  refine sh_mp (fun w Z k => sh_istore dc_Mod_next_33 (by decide) k) ?_
  refine sh_mp (fun w Z k => sh_aload_n dc_Mod_next_35 rfl rfl k) ?_
  refine sh_mget 12 dc_Mod_next_36 (by decide) fl_Mod_42 rfl rfl rfl rfl ?_
  refine sh_mp (fun w Z k => sh_iload_n dc_Mod_next_39 rfl rfl k) ?_
  refine sh_miald 12 (l := 8) (k := s) dc_Mod_next_40 (by decide) rfl (by omega) (by decide) ?_
  refine sh_mp (fun w Z k => sh_iconst (v := 3) dc_Mod_next_41 (by decide) k) ?_
  refine sh_mp (fun w Z k => sh_icmp_ne (tgt := 62) dc_Mod_next_42 (by decide) (fun z => absurd c0_42 z) (fun _ => k)) ?_
  refine sh_mp (fun w Z k => sh_aload_n dc_Mod_next_45 rfl rfl k) ?_
  refine sh_mget 3 dc_Mod_next_46 (by decide) fl_Mod_16 rfl rfl rfl rfl ?_
  refine sh_mp (fun w Z k => sh_iload dc_Mod_next_49 rfl k) ?_
  refine sh_mdald 3 (l := 6) (k := u) dc_Mod_next_51 (by decide) er (by omega) (by decide) ?_
  refine sh_mp (fun w Z k => sh_aload_n dc_Mod_next_52 rfl rfl k) ?_
  refine sh_mget 3 dc_Mod_next_53 (by decide) fl_Mod_16 rfl rfl rfl rfl ?_
  refine sh_mp (fun w Z k => sh_iload_n dc_Mod_next_56 rfl rfl k) ?_
  refine sh_mdald 3 (l := 6) (k := b) dc_Mod_next_57 (by decide) rfl (by omega) (by decide) ?_
  refine sh_mp (fun w Z k => sh_dcmp dc_Mod_next_58 k) ?_
  refine sh_mp (fun w Z k => sh_if_gt (tgt := 92) dc_Mod_next_59 (by decide) (fun z => absurd z c1_59) (fun _ => k)) ?_
  refine sh_mp (fun w Z k => sh_aload_n dc_Mod_next_62 rfl rfl k) ?_
  refine sh_mget 12 dc_Mod_next_63 (by decide) fl_Mod_42 rfl rfl rfl rfl ?_
  refine sh_mp (fun w Z k => sh_iload_n dc_Mod_next_66 rfl rfl k) ?_
  refine sh_miald 12 (l := 8) (k := s) dc_Mod_next_67 (by decide) rfl (by omega) (by decide) ?_
  refine sh_mp (fun w Z k => sh_iconst (v := 5) dc_Mod_next_68 (by decide) k) ?_
  refine sh_mp (fun w Z k => sh_icmp_ne (tgt := 95) dc_Mod_next_69 (by decide) (fun z => absurd c2_69 z) (fun _ => k)) ?_
  refine sh_mp (fun w Z k => sh_aload_n dc_Mod_next_72 rfl rfl k) ?_
  refine sh_mget 6 dc_Mod_next_73 (by decide) fl_Mod_27 rfl rfl rfl rfl ?_
  refine sh_mp (fun w Z k => sh_iload_n dc_Mod_next_76 rfl rfl k) ?_
  refine sh_miald 6 (l := 6) (k := b) dc_Mod_next_77 (by decide) rfl (by omega) (by decide) ?_
  refine sh_mp (fun w Z k => sh_if_ne (tgt := 95) dc_Mod_next_78 (by decide) (fun _ => k) (fun z => absurd z c3_78)) ?_
  refine sh_mp (fun w Z k => sh_iinc (v := nI (i + 1)) dc_Mod_next_95 rfl (sh_nadd rfl (rfl : (1 : Int32) = nI 1)) (by decide) k) ?_
  refine sh_mp (fun w Z k => sh_goto_ (tgt := 12) dc_Mod_next_98 (by decide) k) ?_
  refine sh_mlv [2, 3, 4, 0] rfl ?_
  exact k9
theorem mb_Mod_next_12_5 {mq : Nat} {A : Nat → Nat} {I I9 : sh_II} {D D9 : sh_DD} {v9 : Option Value} {s : Nat} {b : Nat} {i : Nat} {u : Nat} (hs : s < 8) (hb : b < 6) (hi : i < 6) (hx : ¬ (I 19 s) ≤ (nI i)) (hu : u < 6) (er : I 18 ((6 * s) + i) = nI u) (c0_42 : (I 12 s) = 3) (c1_59 : ¬ 0 < (Op.cmpValue (FP.dcmp (D 3 u) (D 3 b)) .l)) (c2_69 : ¬ (I 12 s) = 5) (k9 : sh_mW mq A md_Mod_next (12, [(0, .ref mq), (1, .int (nI s)), (2, .int (nI b)), (3, .int (nI (i + 1)))], []) I D 0 0 v9 I9 D9) : sh_mW mq A md_Mod_next (12, [(0, .ref mq), (1, .int (nI s)), (2, .int (nI b)), (3, .int (nI i))], []) I D 0 0 v9 I9 D9 := by
  refine sh_mp (fun w Z k => sh_iload_n dc_Mod_next_12 rfl rfl k) ?_
  refine sh_mp (fun w Z k => sh_aload_n dc_Mod_next_13 rfl rfl k) ?_
  refine sh_mget 19 dc_Mod_next_14 (by decide) fl_Mod_63 rfl rfl rfl rfl ?_
  refine sh_mp (fun w Z k => sh_iload_n dc_Mod_next_17 rfl rfl k) ?_
  refine sh_miald 19 (l := 8) (k := s) dc_Mod_next_18 (by decide) rfl (by omega) (by decide) ?_
  refine sh_mp (fun w Z k => sh_icmp_ge (tgt := 101) dc_Mod_next_19 (by decide) (fun z => absurd z hx) (fun _ => k)) ?_
  refine sh_mp (fun w Z k => sh_aload_n dc_Mod_next_22 rfl rfl k) ?_
  refine sh_mget 18 dc_Mod_next_23 (by decide) fl_Mod_60 rfl rfl rfl rfl ?_
  refine sh_mp (fun w Z k => sh_bipush (v := 6) dc_Mod_next_26 (by decide) k) ?_
  refine sh_mp (fun w Z k => sh_iload_n dc_Mod_next_28 rfl rfl k) ?_
  refine sh_mp (fun w Z k => sh_imul dc_Mod_next_29 k) ?_
  refine sh_mp (fun w Z k => sh_iload_n dc_Mod_next_30 rfl rfl k) ?_
  refine sh_mp (fun w Z k => sh_iadd dc_Mod_next_31 k) ?_
  refine sh_miald 18 (l := 48) (k := (6 * s) + i) dc_Mod_next_32 (by decide) (sh_nadd (sh_nmul rfl rfl) rfl) (by omega) (by decide) ?_
  refine sh_mp (fun w Z k => sh_istore dc_Mod_next_33 (by decide) k) ?_
  refine sh_mp (fun w Z k => sh_aload_n dc_Mod_next_35 rfl rfl k) ?_
  refine sh_mget 12 dc_Mod_next_36 (by decide) fl_Mod_42 rfl rfl rfl rfl ?_
  refine sh_mp (fun w Z k => sh_iload_n dc_Mod_next_39 rfl rfl k) ?_
  refine sh_miald 12 (l := 8) (k := s) dc_Mod_next_40 (by decide) rfl (by omega) (by decide) ?_
  refine sh_mp (fun w Z k => sh_iconst (v := 3) dc_Mod_next_41 (by decide) k) ?_
  refine sh_mp (fun w Z k => sh_icmp_ne (tgt := 62) dc_Mod_next_42 (by decide) (fun z => absurd c0_42 z) (fun _ => k)) ?_
  refine sh_mp (fun w Z k => sh_aload_n dc_Mod_next_45 rfl rfl k) ?_
  refine sh_mget 3 dc_Mod_next_46 (by decide) fl_Mod_16 rfl rfl rfl rfl ?_
  refine sh_mp (fun w Z k => sh_iload dc_Mod_next_49 rfl k) ?_
  refine sh_mdald 3 (l := 6) (k := u) dc_Mod_next_51 (by decide) er (by omega) (by decide) ?_
  refine sh_mp (fun w Z k => sh_aload_n dc_Mod_next_52 rfl rfl k) ?_
  refine sh_mget 3 dc_Mod_next_53 (by decide) fl_Mod_16 rfl rfl rfl rfl ?_
  refine sh_mp (fun w Z k => sh_iload_n dc_Mod_next_56 rfl rfl k) ?_
  refine sh_mdald 3 (l := 6) (k := b) dc_Mod_next_57 (by decide) rfl (by omega) (by decide) ?_
  refine sh_mp (fun w Z k => sh_dcmp dc_Mod_next_58 k) ?_
  refine sh_mp (fun w Z k => sh_if_gt (tgt := 92) dc_Mod_next_59 (by decide) (fun z => absurd z c1_59) (fun _ => k)) ?_
  refine sh_mp (fun w Z k => sh_aload_n dc_Mod_next_62 rfl rfl k) ?_
  refine sh_mget 12 dc_Mod_next_63 (by decide) fl_Mod_42 rfl rfl rfl rfl ?_
  refine sh_mp (fun w Z k => sh_iload_n dc_Mod_next_66 rfl rfl k) ?_
  refine sh_miald 12 (l := 8) (k := s) dc_Mod_next_67 (by decide) rfl (by omega) (by decide) ?_
  refine sh_mp (fun w Z k => sh_iconst (v := 5) dc_Mod_next_68 (by decide) k) ?_
  refine sh_mp (fun w Z k => sh_icmp_ne (tgt := 95) dc_Mod_next_69 (by decide) (fun _ => k) (fun z => absurd z c2_69)) ?_
  refine sh_mp (fun w Z k => sh_iinc (v := nI (i + 1)) dc_Mod_next_95 rfl (sh_nadd rfl (rfl : (1 : Int32) = nI 1)) (by decide) k) ?_
  refine sh_mp (fun w Z k => sh_goto_ (tgt := 12) dc_Mod_next_98 (by decide) k) ?_
  refine sh_mlv [2, 3, 4, 0] rfl ?_
  exact k9
theorem mb_Mod_next_12_6 {mq : Nat} {A : Nat → Nat} {I I9 : sh_II} {D D9 : sh_DD} {v9 : Option Value} {s : Nat} {b : Nat} {i : Nat} {u : Nat} (hs : s < 8) (hb : b < 6) (hi : i < 6) (hx : ¬ (I 19 s) ≤ (nI i)) (hu : u < 6) (er : I 18 ((6 * s) + i) = nI u) (c0_42 : ¬ (I 12 s) = 3) (c1_69 : (I 12 s) = 5) (c2_78 : (I 6 b) = 0) (c3_89 : (I 6 u) = 1) (k9 : sh_mW mq A md_Mod_next (12, [(0, .ref mq), (1, .int (nI s)), (2, .int (I 18 ((6 * s) + i))), (3, .int (nI (i + 1)))], []) I D 0 0 v9 I9 D9) : sh_mW mq A md_Mod_next (12, [(0, .ref mq), (1, .int (nI s)), (2, .int (nI b)), (3, .int (nI i))], []) I D 0 0 v9 I9 D9 := by
  refine sh_mp (fun w Z k => sh_iload_n dc_Mod_next_12 rfl rfl k) ?_
  refine sh_mp (fun w Z k => sh_aload_n dc_Mod_next_13 rfl rfl k) ?_
  refine sh_mget 19 dc_Mod_next_14 (by decide) fl_Mod_63 rfl rfl rfl rfl ?_
  refine sh_mp (fun w Z k => sh_iload_n dc_Mod_next_17 rfl rfl k) ?_
  refine sh_miald 19 (l := 8) (k := s) dc_Mod_next_18 (by decide) rfl (by omega) (by decide) ?_
  refine sh_mp (fun w Z k => sh_icmp_ge (tgt := 101) dc_Mod_next_19 (by decide) (fun z => absurd z hx) (fun _ => k)) ?_
  refine sh_mp (fun w Z k => sh_aload_n dc_Mod_next_22 rfl rfl k) ?_
  refine sh_mget 18 dc_Mod_next_23 (by decide) fl_Mod_60 rfl rfl rfl rfl ?_
  refine sh_mp (fun w Z k => sh_bipush (v := 6) dc_Mod_next_26 (by decide) k) ?_
  refine sh_mp (fun w Z k => sh_iload_n dc_Mod_next_28 rfl rfl k) ?_
  refine sh_mp (fun w Z k => sh_imul dc_Mod_next_29 k) ?_
  refine sh_mp (fun w Z k => sh_iload_n dc_Mod_next_30 rfl rfl k) ?_
  refine sh_mp (fun w Z k => sh_iadd dc_Mod_next_31 k) ?_
  refine sh_miald 18 (l := 48) (k := (6 * s) + i) dc_Mod_next_32 (by decide) (sh_nadd (sh_nmul rfl rfl) rfl) (by omega) (by decide) ?_
  refine sh_mp (fun w Z k => sh_istore dc_Mod_next_33 (by decide) k) ?_
  refine sh_mp (fun w Z k => sh_aload_n dc_Mod_next_35 rfl rfl k) ?_
  refine sh_mget 12 dc_Mod_next_36 (by decide) fl_Mod_42 rfl rfl rfl rfl ?_
  refine sh_mp (fun w Z k => sh_iload_n dc_Mod_next_39 rfl rfl k) ?_
  refine sh_miald 12 (l := 8) (k := s) dc_Mod_next_40 (by decide) rfl (by omega) (by decide) ?_
  refine sh_mp (fun w Z k => sh_iconst (v := 3) dc_Mod_next_41 (by decide) k) ?_
  refine sh_mp (fun w Z k => sh_icmp_ne (tgt := 62) dc_Mod_next_42 (by decide) (fun _ => k) (fun z => absurd z c0_42)) ?_
  refine sh_mp (fun w Z k => sh_aload_n dc_Mod_next_62 rfl rfl k) ?_
  refine sh_mget 12 dc_Mod_next_63 (by decide) fl_Mod_42 rfl rfl rfl rfl ?_
  refine sh_mp (fun w Z k => sh_iload_n dc_Mod_next_66 rfl rfl k) ?_
  refine sh_miald 12 (l := 8) (k := s) dc_Mod_next_67 (by decide) rfl (by omega) (by decide) ?_
  refine sh_mp (fun w Z k => sh_iconst (v := 5) dc_Mod_next_68 (by decide) k) ?_
  refine sh_mp (fun w Z k => sh_icmp_ne (tgt := 95) dc_Mod_next_69 (by decide) (fun z => absurd c1_69 z) (fun _ => k)) ?_
  refine sh_mp (fun w Z k => sh_aload_n dc_Mod_next_72 rfl rfl k) ?_
  refine sh_mget 6 dc_Mod_next_73 (by decide) fl_Mod_27 rfl rfl rfl rfl ?_
  refine sh_mp (fun w Z k => sh_iload_n dc_Mod_next_76 rfl rfl k) ?_
  refine sh_miald 6 (l := 6) (k := b) dc_Mod_next_77 (by decide) rfl (by omega) (by decide) ?_
  refine sh_mp (fun w Z k => sh_if_ne (tgt := 95) dc_Mod_next_78 (by decide) (fun z => absurd c2_78 z) (fun _ => k)) ?_
  refine sh_mp (fun w Z k => sh_aload_n dc_Mod_next_81 rfl rfl k) ?_
  refine sh_mget 6 dc_Mod_next_82 (by decide) fl_Mod_27 rfl rfl rfl rfl ?_
  refine sh_mp (fun w Z k => sh_iload dc_Mod_next_85 rfl k) ?_
  refine sh_miald 6 (l := 6) (k := u) dc_Mod_next_87 (by decide) er (by omega) (by decide) ?_
  refine sh_mp (fun w Z k => sh_iconst (v := 1) dc_Mod_next_88 (by decide) k) ?_
  refine sh_mp (fun w Z k => sh_icmp_ne (tgt := 95) dc_Mod_next_89 (by decide) (fun z => absurd c3_89 z) (fun _ => k)) ?_
  refine sh_mp (fun w Z k => sh_iload dc_Mod_next_92 rfl k) ?_
  refine sh_mp (fun w Z k => sh_istore_n dc_Mod_next_94 rfl (by decide) k) ?_
  refine sh_mp (fun w Z k => sh_iinc (v := nI (i + 1)) dc_Mod_next_95 rfl (sh_nadd rfl (rfl : (1 : Int32) = nI 1)) (by decide) k) ?_
  refine sh_mp (fun w Z k => sh_goto_ (tgt := 12) dc_Mod_next_98 (by decide) k) ?_
  refine sh_mlv [3, 4, 1, 0] rfl ?_
  exact k9
theorem mb_Mod_next_12_7 {mq : Nat} {A : Nat → Nat} {I I9 : sh_II} {D D9 : sh_DD} {v9 : Option Value} {s : Nat} {b : Nat} {i : Nat} {u : Nat} (hs : s < 8) (hb : b < 6) (hi : i < 6) (hx : ¬ (I 19 s) ≤ (nI i)) (hu : u < 6) (er : I 18 ((6 * s) + i) = nI u) (c0_42 : ¬ (I 12 s) = 3) (c1_69 : (I 12 s) = 5) (c2_78 : (I 6 b) = 0) (c3_89 : ¬ (I 6 u) = 1) (k9 : sh_mW mq A md_Mod_next (12, [(0, .ref mq), (1, .int (nI s)), (2, .int (nI b)), (3, .int (nI (i + 1)))], []) I D 0 0 v9 I9 D9) : sh_mW mq A md_Mod_next (12, [(0, .ref mq), (1, .int (nI s)), (2, .int (nI b)), (3, .int (nI i))], []) I D 0 0 v9 I9 D9 := by
  refine sh_mp (fun w Z k => sh_iload_n dc_Mod_next_12 rfl rfl k) ?_
  refine sh_mp (fun w Z k => sh_aload_n dc_Mod_next_13 rfl rfl k) ?_
  refine sh_mget 19 dc_Mod_next_14 (by decide) fl_Mod_63 rfl rfl rfl rfl ?_
  refine sh_mp (fun w Z k => sh_iload_n dc_Mod_next_17 rfl rfl k) ?_
  refine sh_miald 19 (l := 8) (k := s) dc_Mod_next_18 (by decide) rfl (by omega) (by decide) ?_
  refine sh_mp (fun w Z k => sh_icmp_ge (tgt := 101) dc_Mod_next_19 (by decide) (fun z => absurd z hx) (fun _ => k)) ?_
  refine sh_mp (fun w Z k => sh_aload_n dc_Mod_next_22 rfl rfl k) ?_
  refine sh_mget 18 dc_Mod_next_23 (by decide) fl_Mod_60 rfl rfl rfl rfl ?_
  refine sh_mp (fun w Z k => sh_bipush (v := 6) dc_Mod_next_26 (by decide) k) ?_
  refine sh_mp (fun w Z k => sh_iload_n dc_Mod_next_28 rfl rfl k) ?_
  refine sh_mp (fun w Z k => sh_imul dc_Mod_next_29 k) ?_
  refine sh_mp (fun w Z k => sh_iload_n dc_Mod_next_30 rfl rfl k) ?_
  refine sh_mp (fun w Z k => sh_iadd dc_Mod_next_31 k) ?_
  refine sh_miald 18 (l := 48) (k := (6 * s) + i) dc_Mod_next_32 (by decide) (sh_nadd (sh_nmul rfl rfl) rfl) (by omega) (by decide) ?_
  refine sh_mp (fun w Z k => sh_istore dc_Mod_next_33 (by decide) k) ?_
  refine sh_mp (fun w Z k => sh_aload_n dc_Mod_next_35 rfl rfl k) ?_
  refine sh_mget 12 dc_Mod_next_36 (by decide) fl_Mod_42 rfl rfl rfl rfl ?_
  refine sh_mp (fun w Z k => sh_iload_n dc_Mod_next_39 rfl rfl k) ?_
  refine sh_miald 12 (l := 8) (k := s) dc_Mod_next_40 (by decide) rfl (by omega) (by decide) ?_
  refine sh_mp (fun w Z k => sh_iconst (v := 3) dc_Mod_next_41 (by decide) k) ?_
  refine sh_mp (fun w Z k => sh_icmp_ne (tgt := 62) dc_Mod_next_42 (by decide) (fun _ => k) (fun z => absurd z c0_42)) ?_
  refine sh_mp (fun w Z k => sh_aload_n dc_Mod_next_62 rfl rfl k) ?_
  refine sh_mget 12 dc_Mod_next_63 (by decide) fl_Mod_42 rfl rfl rfl rfl ?_
  refine sh_mp (fun w Z k => sh_iload_n dc_Mod_next_66 rfl rfl k) ?_
  refine sh_miald 12 (l := 8) (k := s) dc_Mod_next_67 (by decide) rfl (by omega) (by decide) ?_
  refine sh_mp (fun w Z k => sh_iconst (v := 5) dc_Mod_next_68 (by decide) k) ?_
  refine sh_mp (fun w Z k => sh_icmp_ne (tgt := 95) dc_Mod_next_69 (by decide) (fun z => absurd c1_69 z) (fun _ => k)) ?_
  refine sh_mp (fun w Z k => sh_aload_n dc_Mod_next_72 rfl rfl k) ?_
  refine sh_mget 6 dc_Mod_next_73 (by decide) fl_Mod_27 rfl rfl rfl rfl ?_
  refine sh_mp (fun w Z k => sh_iload_n dc_Mod_next_76 rfl rfl k) ?_
  refine sh_miald 6 (l := 6) (k := b) dc_Mod_next_77 (by decide) rfl (by omega) (by decide) ?_
  refine sh_mp (fun w Z k => sh_if_ne (tgt := 95) dc_Mod_next_78 (by decide) (fun z => absurd c2_78 z) (fun _ => k)) ?_
  refine sh_mp (fun w Z k => sh_aload_n dc_Mod_next_81 rfl rfl k) ?_
  refine sh_mget 6 dc_Mod_next_82 (by decide) fl_Mod_27 rfl rfl rfl rfl ?_
  refine sh_mp (fun w Z k => sh_iload dc_Mod_next_85 rfl k) ?_
  refine sh_miald 6 (l := 6) (k := u) dc_Mod_next_87 (by decide) er (by omega) (by decide) ?_
  refine sh_mp (fun w Z k => sh_iconst (v := 1) dc_Mod_next_88 (by decide) k) ?_
  refine sh_mp (fun w Z k => sh_icmp_ne (tgt := 95) dc_Mod_next_89 (by decide) (fun _ => k) (fun z => absurd z c3_89)) ?_
  refine sh_mp (fun w Z k => sh_iinc (v := nI (i + 1)) dc_Mod_next_95 rfl (sh_nadd rfl (rfl : (1 : Int32) = nI 1)) (by decide) k) ?_
  refine sh_mp (fun w Z k => sh_goto_ (tgt := 12) dc_Mod_next_98 (by decide) k) ?_
  refine sh_mlv [2, 3, 4, 0] rfl ?_
  exact k9
theorem mb_Mod_next_12_8 {mq : Nat} {A : Nat → Nat} {I I9 : sh_II} {D D9 : sh_DD} {v9 : Option Value} {s : Nat} {b : Nat} {i : Nat} {u : Nat} (hs : s < 8) (hb : b < 6) (hi : i < 6) (hx : ¬ (I 19 s) ≤ (nI i)) (hu : u < 6) (er : I 18 ((6 * s) + i) = nI u) (c0_42 : ¬ (I 12 s) = 3) (c1_69 : (I 12 s) = 5) (c2_78 : ¬ (I 6 b) = 0) (k9 : sh_mW mq A md_Mod_next (12, [(0, .ref mq), (1, .int (nI s)), (2, .int (nI b)), (3, .int (nI (i + 1)))], []) I D 0 0 v9 I9 D9) : sh_mW mq A md_Mod_next (12, [(0, .ref mq), (1, .int (nI s)), (2, .int (nI b)), (3, .int (nI i))], []) I D 0 0 v9 I9 D9 := by
  refine sh_mp (fun w Z k => sh_iload_n dc_Mod_next_12 rfl rfl k) ?_
  refine sh_mp (fun w Z k => sh_aload_n dc_Mod_next_13 rfl rfl k) ?_
  refine sh_mget 19 dc_Mod_next_14 (by decide) fl_Mod_63 rfl rfl rfl rfl ?_
  refine sh_mp (fun w Z k => sh_iload_n dc_Mod_next_17 rfl rfl k) ?_
  refine sh_miald 19 (l := 8) (k := s) dc_Mod_next_18 (by decide) rfl (by omega) (by decide) ?_
  refine sh_mp (fun w Z k => sh_icmp_ge (tgt := 101) dc_Mod_next_19 (by decide) (fun z => absurd z hx) (fun _ => k)) ?_
  refine sh_mp (fun w Z k => sh_aload_n dc_Mod_next_22 rfl rfl k) ?_
  refine sh_mget 18 dc_Mod_next_23 (by decide) fl_Mod_60 rfl rfl rfl rfl ?_
  refine sh_mp (fun w Z k => sh_bipush (v := 6) dc_Mod_next_26 (by decide) k) ?_
  refine sh_mp (fun w Z k => sh_iload_n dc_Mod_next_28 rfl rfl k) ?_
  refine sh_mp (fun w Z k => sh_imul dc_Mod_next_29 k) ?_
  refine sh_mp (fun w Z k => sh_iload_n dc_Mod_next_30 rfl rfl k) ?_
  refine sh_mp (fun w Z k => sh_iadd dc_Mod_next_31 k) ?_
  refine sh_miald 18 (l := 48) (k := (6 * s) + i) dc_Mod_next_32 (by decide) (sh_nadd (sh_nmul rfl rfl) rfl) (by omega) (by decide) ?_
  refine sh_mp (fun w Z k => sh_istore dc_Mod_next_33 (by decide) k) ?_
  refine sh_mp (fun w Z k => sh_aload_n dc_Mod_next_35 rfl rfl k) ?_
  refine sh_mget 12 dc_Mod_next_36 (by decide) fl_Mod_42 rfl rfl rfl rfl ?_
  refine sh_mp (fun w Z k => sh_iload_n dc_Mod_next_39 rfl rfl k) ?_
  refine sh_miald 12 (l := 8) (k := s) dc_Mod_next_40 (by decide) rfl (by omega) (by decide) ?_
  refine sh_mp (fun w Z k => sh_iconst (v := 3) dc_Mod_next_41 (by decide) k) ?_
  refine sh_mp (fun w Z k => sh_icmp_ne (tgt := 62) dc_Mod_next_42 (by decide) (fun _ => k) (fun z => absurd z c0_42)) ?_
  refine sh_mp (fun w Z k => sh_aload_n dc_Mod_next_62 rfl rfl k) ?_
  refine sh_mget 12 dc_Mod_next_63 (by decide) fl_Mod_42 rfl rfl rfl rfl ?_
  refine sh_mp (fun w Z k => sh_iload_n dc_Mod_next_66 rfl rfl k) ?_
  refine sh_miald 12 (l := 8) (k := s) dc_Mod_next_67 (by decide) rfl (by omega) (by decide) ?_
  refine sh_mp (fun w Z k => sh_iconst (v := 5) dc_Mod_next_68 (by decide) k) ?_
  refine sh_mp (fun w Z k => sh_icmp_ne (tgt := 95) dc_Mod_next_69 (by decide) (fun z => absurd c1_69 z) (fun _ => k)) ?_
  refine sh_mp (fun w Z k => sh_aload_n dc_Mod_next_72 rfl rfl k) ?_
  refine sh_mget 6 dc_Mod_next_73 (by decide) fl_Mod_27 rfl rfl rfl rfl ?_
  refine sh_mp (fun w Z k => sh_iload_n dc_Mod_next_76 rfl rfl k) ?_
  refine sh_miald 6 (l := 6) (k := b) dc_Mod_next_77 (by decide) rfl (by omega) (by decide) ?_
  refine sh_mp (fun w Z k => sh_if_ne (tgt := 95) dc_Mod_next_78 (by decide) (fun _ => k) (fun z => absurd z c2_78)) ?_
  refine sh_mp (fun w Z k => sh_iinc (v := nI (i + 1)) dc_Mod_next_95 rfl (sh_nadd rfl (rfl : (1 : Int32) = nI 1)) (by decide) k) ?_
  refine sh_mp (fun w Z k => sh_goto_ (tgt := 12) dc_Mod_next_98 (by decide) k) ?_
  refine sh_mlv [2, 3, 4, 0] rfl ?_
  exact k9
theorem mb_Mod_next_12_9 {mq : Nat} {A : Nat → Nat} {I I9 : sh_II} {D D9 : sh_DD} {v9 : Option Value} {s : Nat} {b : Nat} {i : Nat} {u : Nat} (hs : s < 8) (hb : b < 6) (hi : i < 6) (hx : ¬ (I 19 s) ≤ (nI i)) (hu : u < 6) (er : I 18 ((6 * s) + i) = nI u) (c0_42 : ¬ (I 12 s) = 3) (c1_69 : ¬ (I 12 s) = 5) (k9 : sh_mW mq A md_Mod_next (12, [(0, .ref mq), (1, .int (nI s)), (2, .int (nI b)), (3, .int (nI (i + 1)))], []) I D 0 0 v9 I9 D9) : sh_mW mq A md_Mod_next (12, [(0, .ref mq), (1, .int (nI s)), (2, .int (nI b)), (3, .int (nI i))], []) I D 0 0 v9 I9 D9 := by
  refine sh_mp (fun w Z k => sh_iload_n dc_Mod_next_12 rfl rfl k) ?_
  refine sh_mp (fun w Z k => sh_aload_n dc_Mod_next_13 rfl rfl k) ?_
  refine sh_mget 19 dc_Mod_next_14 (by decide) fl_Mod_63 rfl rfl rfl rfl ?_
  refine sh_mp (fun w Z k => sh_iload_n dc_Mod_next_17 rfl rfl k) ?_
  refine sh_miald 19 (l := 8) (k := s) dc_Mod_next_18 (by decide) rfl (by omega) (by decide) ?_
  refine sh_mp (fun w Z k => sh_icmp_ge (tgt := 101) dc_Mod_next_19 (by decide) (fun z => absurd z hx) (fun _ => k)) ?_
  refine sh_mp (fun w Z k => sh_aload_n dc_Mod_next_22 rfl rfl k) ?_
  refine sh_mget 18 dc_Mod_next_23 (by decide) fl_Mod_60 rfl rfl rfl rfl ?_
  refine sh_mp (fun w Z k => sh_bipush (v := 6) dc_Mod_next_26 (by decide) k) ?_
  refine sh_mp (fun w Z k => sh_iload_n dc_Mod_next_28 rfl rfl k) ?_
  refine sh_mp (fun w Z k => sh_imul dc_Mod_next_29 k) ?_
  refine sh_mp (fun w Z k => sh_iload_n dc_Mod_next_30 rfl rfl k) ?_
  refine sh_mp (fun w Z k => sh_iadd dc_Mod_next_31 k) ?_
  refine sh_miald 18 (l := 48) (k := (6 * s) + i) dc_Mod_next_32 (by decide) (sh_nadd (sh_nmul rfl rfl) rfl) (by omega) (by decide) ?_
  refine sh_mp (fun w Z k => sh_istore dc_Mod_next_33 (by decide) k) ?_
  refine sh_mp (fun w Z k => sh_aload_n dc_Mod_next_35 rfl rfl k) ?_
  refine sh_mget 12 dc_Mod_next_36 (by decide) fl_Mod_42 rfl rfl rfl rfl ?_
  refine sh_mp (fun w Z k => sh_iload_n dc_Mod_next_39 rfl rfl k) ?_
  refine sh_miald 12 (l := 8) (k := s) dc_Mod_next_40 (by decide) rfl (by omega) (by decide) ?_
  refine sh_mp (fun w Z k => sh_iconst (v := 3) dc_Mod_next_41 (by decide) k) ?_
  refine sh_mp (fun w Z k => sh_icmp_ne (tgt := 62) dc_Mod_next_42 (by decide) (fun _ => k) (fun z => absurd z c0_42)) ?_
  refine sh_mp (fun w Z k => sh_aload_n dc_Mod_next_62 rfl rfl k) ?_
  refine sh_mget 12 dc_Mod_next_63 (by decide) fl_Mod_42 rfl rfl rfl rfl ?_
  refine sh_mp (fun w Z k => sh_iload_n dc_Mod_next_66 rfl rfl k) ?_
  refine sh_miald 12 (l := 8) (k := s) dc_Mod_next_67 (by decide) rfl (by omega) (by decide) ?_
  refine sh_mp (fun w Z k => sh_iconst (v := 5) dc_Mod_next_68 (by decide) k) ?_
  refine sh_mp (fun w Z k => sh_icmp_ne (tgt := 95) dc_Mod_next_69 (by decide) (fun _ => k) (fun z => absurd z c1_69)) ?_
  refine sh_mp (fun w Z k => sh_iinc (v := nI (i + 1)) dc_Mod_next_95 rfl (sh_nadd rfl (rfl : (1 : Int32) = nI 1)) (by decide) k) ?_
  refine sh_mp (fun w Z k => sh_goto_ (tgt := 12) dc_Mod_next_98 (by decide) k) ?_
  refine sh_mlv [2, 3, 4, 0] rfl ?_
  exact k9
theorem mb_Mod_latest_p_0_1 {mq : Nat} {A : Nat → Nat} {I I9 : sh_II} {D D9 : sh_DD} {v9 : Option Value}  (k9 : sh_mW mq A md_Mod_latest (4, [(0, .ref mq), (1, .int (-1)), (2, .int 0)], []) I D 0 0 v9 I9 D9) : sh_mW mq A md_Mod_latest (0, [(0, .ref mq)], []) I D 0 0 v9 I9 D9 := by
  refine sh_mp (fun w Z k => sh_iconst (v := (-1)) dc_Mod_latest_0 (by decide) k) ?_
  refine sh_mp (fun w Z k => sh_istore_n dc_Mod_latest_1 rfl (by decide) k) ?_
  refine sh_mp (fun w Z k => sh_iconst (v := 0) dc_Mod_latest_2 (by decide) k) ?_
  refine sh_mp (fun w Z k => sh_istore_n dc_Mod_latest_3 rfl (by decide) k) ?_
  refine sh_mlv [2, 1, 0] rfl ?_
  exact k9
theorem mb_Mod_latest_en_4_1 {mq : Nat} {A : Nat → Nat} {I : sh_II} {D : sh_DD} {i : Nat} (hx : 6 ≤ (nI i)) : sh_mW mq A md_Mod_latest (4, [(0, .ref mq), (1, .int (-1)), (2, .int (nI i))], []) I D 0 0 (some (.int (-1))) I D := by
  refine sh_mp (fun w Z k => sh_iload_n dc_Mod_latest_4 rfl rfl k) ?_
  refine sh_mp (fun w Z k => sh_bipush (v := 6) dc_Mod_latest_5 (by decide) k) ?_
  refine sh_mp (fun w Z k => sh_icmp_ge (tgt := 82) dc_Mod_latest_7 (by decide) (fun _ => k) (fun z => absurd hx z)) ?_
  refine sh_mp (fun w Z k => sh_iload_n dc_Mod_latest_82 rfl rfl k) ?_
  exact sh_me (fun w => sh_ireturn dc_Mod_latest_83 rfl rfl (by decide) (by decide))
theorem mb_Mod_latest_n_4_1 {mq : Nat} {A : Nat → Nat} {I I9 : sh_II} {D D9 : sh_DD} {v9 : Option Value} {i : Nat} (hi : i < 6) (hx : ¬ 6 ≤ (nI i)) (c0_16 : (I 1 i) = 0) (k9 : sh_mW mq A md_Mod_latest (4, [(0, .ref mq), (1, .int (-1)), (2, .int (nI (i + 1)))], []) I D 0 0 v9 I9 D9) : sh_mW mq A md_Mod_latest (4, [(0, .ref mq), (1, .int (-1)), (2, .int (nI i))], []) I D 0 0 v9 I9 D9 := by
  refine sh_mp (fun w Z k => sh_iload_n dc_Mod_latest_4 rfl rfl k) ?_
  refine sh_mp (fun w Z k => sh_bipush (v := 6) dc_Mod_latest_5 (by decide) k) ?_
  refine sh_mp (fun w Z k => sh_icmp_ge (tgt := 82) dc_Mod_latest_7 (by decide) (fun z => absurd z hx) (fun _ => k)) ?_
  refine sh_mp (fun w Z k => sh_aload_n dc_Mod_latest_10 rfl rfl k) ?_
  refine sh_mget 1 dc_Mod_latest_11 (by decide) fl_Mod_7 rfl rfl rfl rfl ?_
  refine sh_mp (fun w Z k => sh_iload_n dc_Mod_latest_14 rfl rfl k) ?_
  refine sh_mzald 1 (l := 6) (k := i) dc_Mod_latest_15 (by decide) rfl (by omega) (by decide) ?_
  refine sh_mp (fun w Z k => sh_if_eq (tgt := 48) dc_Mod_latest_16 (by decide) (fun _ => k) (fun z => absurd c0_16 z)) ?_
  refine sh_mp (fun w Z k => sh_iconst (v := 0) dc_Mod_latest_48 (by decide) k) ?_
  refine sh_mp (fun w Z k => sh_istore_n dc_Mod_latest_49 rfl (by decide) k) ?_
  refine sh_mp (fun w Z k => sh_iload_n dc_Mod_latest_50 rfl rfl k) ?_
  refine sh_mp (fun w Z k => sh_if_eq (tgt := 76) dc_Mod_latest_51 (by decide) (fun _ => k) (fun z => absurd (by decide) z)) ?_
  refine sh_mp (fun w Z k => sh_iinc (v := nI (i + 1)) dc_Mod_latest_76 rfl (sh_nadd rfl (rfl : (1 : Int32) = nI 1)) (by decide) k) ?_
  refine sh_mp (fun w Z k => sh_goto_ (tgt := 4) dc_Mod_latest_79 (by decide) k) ?_
  refine sh_mlv [2, 3, 0] rfl ?_
  exact k9
theorem mb_Mod_latest_n_4_2 {mq : Nat} {A : Nat → Nat} {I I9 : sh_II} {D D9 : sh_DD} {v9 : Option Value} {i : Nat} (hi : i < 6) (hx : ¬ 6 ≤ (nI i)) (c0_16 : ¬ (I 1 i) = 0) (c1_27 : (Op.cmpValue (FP.dcmp (D 7 i) FP.dconst0) .l) < 0) (k9 : sh_mW mq A md_Mod_latest (4, [(0, .ref mq), (1, .int (-1)), (2, .int (nI (i + 1)))], []) I D 0 0 v9 I9 D9) : sh_mW mq A md_Mod_latest (4, [(0, .ref mq), (1, .int (-1)), (2, .int (nI i))], []) I D 0 0 v9 I9 D9 := by
  refine sh_mp (fun w Z k => sh_iload_n dc_Mod_latest_4 rfl rfl k) ?_
  refine sh_mp (fun w Z k => sh_bipush (v := 6) dc_Mod_latest_5 (by decide) k) ?_
  refine sh_mp (fun w Z k => sh_icmp_ge (tgt := 82) dc_Mod_latest_7 (by decide) (fun z => absurd z hx) (fun _ => k)) ?_
  refine sh_mp (fun w Z k => sh_aload_n dc_Mod_latest_10 rfl rfl k) ?_
  refine sh_mget 1 dc_Mod_latest_11 (by decide) fl_Mod_7 rfl rfl rfl rfl ?_
  refine sh_mp (fun w Z k => sh_iload_n dc_Mod_latest_14 rfl rfl k) ?_
  refine sh_mzald 1 (l := 6) (k := i) dc_Mod_latest_15 (by decide) rfl (by omega) (by decide) ?_
  refine sh_mp (fun w Z k => sh_if_eq (tgt := 48) dc_Mod_latest_16 (by decide) (fun z => absurd z c0_16) (fun _ => k)) ?_
  refine sh_mp (fun w Z k => sh_aload_n dc_Mod_latest_19 rfl rfl k) ?_
  refine sh_mget 7 dc_Mod_latest_20 (by decide) fl_Mod_30 rfl rfl rfl rfl ?_
  refine sh_mp (fun w Z k => sh_iload_n dc_Mod_latest_23 rfl rfl k) ?_
  refine sh_mdald 7 (l := 6) (k := i) dc_Mod_latest_24 (by decide) rfl (by omega) (by decide) ?_
  refine sh_mp (fun w Z k => sh_dconst0 dc_Mod_latest_25 k) ?_
  refine sh_mp (fun w Z k => sh_dcmp dc_Mod_latest_26 k) ?_
  refine sh_mp (fun w Z k => sh_if_lt (tgt := 48) dc_Mod_latest_27 (by decide) (fun _ => k) (fun z => absurd c1_27 z)) ?_
  refine sh_mp (fun w Z k => sh_iconst (v := 0) dc_Mod_latest_48 (by decide) k) ?_
  refine sh_mp (fun w Z k => sh_istore_n dc_Mod_latest_49 rfl (by decide) k) ?_
  refine sh_mp (fun w Z k => sh_iload_n dc_Mod_latest_50 rfl rfl k) ?_
  refine sh_mp (fun w Z k => sh_if_eq (tgt := 76) dc_Mod_latest_51 (by decide) (fun _ => k) (fun z => absurd (by decide) z)) ?_
  refine sh_mp (fun w Z k => sh_iinc (v := nI (i + 1)) dc_Mod_latest_76 rfl (sh_nadd rfl (rfl : (1 : Int32) = nI 1)) (by decide) k) ?_
  refine sh_mp (fun w Z k => sh_goto_ (tgt := 4) dc_Mod_latest_79 (by decide) k) ?_
  refine sh_mlv [2, 3, 0] rfl ?_
  exact k9
theorem mb_Mod_latest_n_4_3 {mq : Nat} {A : Nat → Nat} {I I9 : sh_II} {D D9 : sh_DD} {v9 : Option Value} {i : Nat} (hi : i < 6) (hx : ¬ 6 ≤ (nI i)) (c0_16 : ¬ (I 1 i) = 0) (c1_27 : ¬ (Op.cmpValue (FP.dcmp (D 7 i) FP.dconst0) .l) < 0) (c2_41 : 0 < (Op.cmpValue (FP.dcmp (D 7 i) (D 11 0)) .g)) (k9 : sh_mW mq A md_Mod_latest (4, [(0, .ref mq), (1, .int (-1)), (2, .int (nI (i + 1)))], []) I D 0 0 v9 I9 D9) : sh_mW mq A md_Mod_latest (4, [(0, .ref mq), (1, .int (-1)), (2, .int (nI i))], []) I D 0 0 v9 I9 D9 := by
  refine sh_mp (fun w Z k => sh_iload_n dc_Mod_latest_4 rfl rfl k) ?_
  refine sh_mp (fun w Z k => sh_bipush (v := 6) dc_Mod_latest_5 (by decide) k) ?_
  refine sh_mp (fun w Z k => sh_icmp_ge (tgt := 82) dc_Mod_latest_7 (by decide) (fun z => absurd z hx) (fun _ => k)) ?_
  refine sh_mp (fun w Z k => sh_aload_n dc_Mod_latest_10 rfl rfl k) ?_
  refine sh_mget 1 dc_Mod_latest_11 (by decide) fl_Mod_7 rfl rfl rfl rfl ?_
  refine sh_mp (fun w Z k => sh_iload_n dc_Mod_latest_14 rfl rfl k) ?_
  refine sh_mzald 1 (l := 6) (k := i) dc_Mod_latest_15 (by decide) rfl (by omega) (by decide) ?_
  refine sh_mp (fun w Z k => sh_if_eq (tgt := 48) dc_Mod_latest_16 (by decide) (fun z => absurd z c0_16) (fun _ => k)) ?_
  refine sh_mp (fun w Z k => sh_aload_n dc_Mod_latest_19 rfl rfl k) ?_
  refine sh_mget 7 dc_Mod_latest_20 (by decide) fl_Mod_30 rfl rfl rfl rfl ?_
  refine sh_mp (fun w Z k => sh_iload_n dc_Mod_latest_23 rfl rfl k) ?_
  refine sh_mdald 7 (l := 6) (k := i) dc_Mod_latest_24 (by decide) rfl (by omega) (by decide) ?_
  refine sh_mp (fun w Z k => sh_dconst0 dc_Mod_latest_25 k) ?_
  refine sh_mp (fun w Z k => sh_dcmp dc_Mod_latest_26 k) ?_
  refine sh_mp (fun w Z k => sh_if_lt (tgt := 48) dc_Mod_latest_27 (by decide) (fun z => absurd z c1_27) (fun _ => k)) ?_
  refine sh_mp (fun w Z k => sh_aload_n dc_Mod_latest_30 rfl rfl k) ?_
  refine sh_mget 7 dc_Mod_latest_31 (by decide) fl_Mod_30 rfl rfl rfl rfl ?_
  refine sh_mp (fun w Z k => sh_iload_n dc_Mod_latest_34 rfl rfl k) ?_
  refine sh_mdald 7 (l := 6) (k := i) dc_Mod_latest_35 (by decide) rfl (by omega) (by decide) ?_
  refine sh_mp (fun w Z k => sh_aload_n dc_Mod_latest_36 rfl rfl k) ?_
  refine sh_mget 11 dc_Mod_latest_37 (by decide) fl_Mod_94 rfl rfl rfl rfl ?_
  refine sh_mp (fun w Z k => sh_dcmp dc_Mod_latest_40 k) ?_
  refine sh_mp (fun w Z k => sh_if_gt (tgt := 48) dc_Mod_latest_41 (by decide) (fun _ => k) (fun z => absurd c2_41 z)) ?_
  refine sh_mp (fun w Z k => sh_iconst (v := 0) dc_Mod_latest_48 (by decide) k) ?_
  refine sh_mp (fun w Z k => sh_istore_n dc_Mod_latest_49 rfl (by decide) k) ?_
  refine sh_mp (fun w Z k => sh_iload_n dc_Mod_latest_50 rfl rfl k) ?_
  refine sh_mp (fun w Z k => sh_if_eq (tgt := 76) dc_Mod_latest_51 (by decide) (fun _ => k) (fun z => absurd (by decide) z)) ?_
  refine sh_mp (fun w Z k => sh_iinc (v := nI (i + 1)) dc_Mod_latest_76 rfl (sh_nadd rfl (rfl : (1 : Int32) = nI 1)) (by decide) k) ?_
  refine sh_mp (fun w Z k => sh_goto_ (tgt := 4) dc_Mod_latest_79 (by decide) k) ?_
  refine sh_mlv [2, 3, 0] rfl ?_
  exact k9
theorem mb_Mod_latest_n_4_4 {mq : Nat} {A : Nat → Nat} {I I9 : sh_II} {D D9 : sh_DD} {v9 : Option Value} {i : Nat} (hi : i < 6) (hx : ¬ 6 ≤ (nI i)) (c0_16 : ¬ (I 1 i) = 0) (c1_27 : ¬ (Op.cmpValue (FP.dcmp (D 7 i) FP.dconst0) .l) < 0) (c2_41 : ¬ 0 < (Op.cmpValue (FP.dcmp (D 7 i) (D 11 0)) .g)) (k9 : sh_mW mq A md_Mod_latest (4, [(0, .ref mq), (1, .int (nI i)), (2, .int (nI (i + 1)))], []) I D 0 0 v9 I9 D9) : sh_mW mq A md_Mod_latest (4, [(0, .ref mq), (1, .int (-1)), (2, .int (nI i))], []) I D 0 0 v9 I9 D9 := by
  refine sh_mp (fun w Z k => sh_iload_n dc_Mod_latest_4 rfl rfl k) ?_
  refine sh_mp (fun w Z k => sh_bipush (v := 6) dc_Mod_latest_5 (by decide) k) ?_
  refine sh_mp (fun w Z k => sh_icmp_ge (tgt := 82) dc_Mod_latest_7 (by decide) (fun z => absurd z hx) (fun _ => k)) ?_
  refine sh_mp (fun w Z k => sh_aload_n dc_Mod_latest_10 rfl rfl k) ?_
  refine sh_mget 1 dc_Mod_latest_11 (by decide) fl_Mod_7 rfl rfl rfl rfl ?_
  refine sh_mp (fun w Z k => sh_iload_n dc_Mod_latest_14 rfl rfl k) ?_
  refine sh_mzald 1 (l := 6) (k := i) dc_Mod_latest_15 (by decide) rfl (by omega) (by decide) ?_
  refine sh_mp (fun w Z k => sh_if_eq (tgt := 48) dc_Mod_latest_16 (by decide) (fun z => absurd z c0_16) (fun _ => k)) ?_
  refine sh_mp (fun w Z k => sh_aload_n dc_Mod_latest_19 rfl rfl k) ?_
  refine sh_mget 7 dc_Mod_latest_20 (by decide) fl_Mod_30 rfl rfl rfl rfl ?_
  refine sh_mp (fun w Z k => sh_iload_n dc_Mod_latest_23 rfl rfl k) ?_
  refine sh_mdald 7 (l := 6) (k := i) dc_Mod_latest_24 (by decide) rfl (by omega) (by decide) ?_
  refine sh_mp (fun w Z k => sh_dconst0 dc_Mod_latest_25 k) ?_
  refine sh_mp (fun w Z k => sh_dcmp dc_Mod_latest_26 k) ?_
  refine sh_mp (fun w Z k => sh_if_lt (tgt := 48) dc_Mod_latest_27 (by decide) (fun z => absurd z c1_27) (fun _ => k)) ?_
  refine sh_mp (fun w Z k => sh_aload_n dc_Mod_latest_30 rfl rfl k) ?_
  refine sh_mget 7 dc_Mod_latest_31 (by decide) fl_Mod_30 rfl rfl rfl rfl ?_
  refine sh_mp (fun w Z k => sh_iload_n dc_Mod_latest_34 rfl rfl k) ?_
  refine sh_mdald 7 (l := 6) (k := i) dc_Mod_latest_35 (by decide) rfl (by omega) (by decide) ?_
  refine sh_mp (fun w Z k => sh_aload_n dc_Mod_latest_36 rfl rfl k) ?_
  refine sh_mget 11 dc_Mod_latest_37 (by decide) fl_Mod_94 rfl rfl rfl rfl ?_
  refine sh_mp (fun w Z k => sh_dcmp dc_Mod_latest_40 k) ?_
  refine sh_mp (fun w Z k => sh_if_gt (tgt := 48) dc_Mod_latest_41 (by decide) (fun z => absurd z c2_41) (fun _ => k)) ?_
  refine sh_mp (fun w Z k => sh_iconst (v := 1) dc_Mod_latest_44 (by decide) k) ?_
  refine sh_mp (fun w Z k => sh_goto_ (tgt := 49) dc_Mod_latest_45 (by decide) k) ?_
  refine sh_mp (fun w Z k => sh_istore_n dc_Mod_latest_49 rfl (by decide) k) ?_
  refine sh_mp (fun w Z k => sh_iload_n dc_Mod_latest_50 rfl rfl k) ?_
  refine sh_mp (fun w Z k => sh_if_eq (tgt := 76) dc_Mod_latest_51 (by decide) (fun z => absurd z (by decide)) (fun _ => k)) ?_
  refine sh_mp (fun w Z k => sh_iload_n dc_Mod_latest_54 rfl rfl k) ?_
  refine sh_mp (fun w Z k => sh_if_lt (tgt := 74) dc_Mod_latest_55 (by decide) (fun _ => k) (fun z => absurd (by decide) z)) ?_
  refine sh_mp (fun w Z k => sh_iload_n dc_Mod_latest_74 rfl rfl k) ?_
  refine sh_mp (fun w Z k => sh_istore_n dc_Mod_latest_75 rfl (by decide) k) ?_
  refine sh_mp (fun w Z k => sh_iinc (v := nI (i + 1)) dc_Mod_latest_76 rfl (sh_nadd rfl (rfl : (1 : Int32) = nI 1)) (by decide) k) ?_
  refine sh_mp (fun w Z k => sh_goto_ (tgt := 4) dc_Mod_latest_79 (by decide) k) ?_
  refine sh_mlv [3, 1, 0] rfl ?_
  exact k9
theorem mb_Mod_latest_eb_4_1 {mq : Nat} {A : Nat → Nat} {I : sh_II} {D : sh_DD} {b : Nat} {i : Nat} (hb : b < 6) (hx : 6 ≤ (nI i)) : sh_mW mq A md_Mod_latest (4, [(0, .ref mq), (1, .int (nI b)), (2, .int (nI i))], []) I D 0 0 (some (.int (nI b))) I D := by
  refine sh_mp (fun w Z k => sh_iload_n dc_Mod_latest_4 rfl rfl k) ?_
  refine sh_mp (fun w Z k => sh_bipush (v := 6) dc_Mod_latest_5 (by decide) k) ?_
  refine sh_mp (fun w Z k => sh_icmp_ge (tgt := 82) dc_Mod_latest_7 (by decide) (fun _ => k) (fun z => absurd hx z)) ?_
  refine sh_mp (fun w Z k => sh_iload_n dc_Mod_latest_82 rfl rfl k) ?_
  exact sh_me (fun w => sh_ireturn dc_Mod_latest_83 rfl rfl (by decide) (by decide))
theorem mb_Mod_latest_b_4_1 {mq : Nat} {A : Nat → Nat} {I I9 : sh_II} {D D9 : sh_DD} {v9 : Option Value} {b : Nat} {i : Nat} (hb : b < 6) (hi : i < 6) (hx : ¬ 6 ≤ (nI i)) (c0_16 : (I 1 i) = 0) (k9 : sh_mW mq A md_Mod_latest (4, [(0, .ref mq), (1, .int (nI b)), (2, .int (nI (i + 1)))], []) I D 0 0 v9 I9 D9) : sh_mW mq A md_Mod_latest (4, [(0, .ref mq), (1, .int (nI b)), (2, .int (nI i))], []) I D 0 0 v9 I9 D9 := by
  refine sh_mp (fun w Z k => sh_iload_n dc_Mod_latest_4 rfl rfl k) ?_
  refine sh_mp (fun w Z k => sh_bipush (v := 6) dc_Mod_latest_5 (by decide) k) ?_
  refine sh_mp (fun w Z k => sh_icmp_ge (tgt := 82) dc_Mod_latest_7 (by decide) (fun z => absurd z hx) (fun _ => k)) ?_
  refine sh_mp (fun w Z k => sh_aload_n dc_Mod_latest_10 rfl rfl k) ?_
  refine sh_mget 1 dc_Mod_latest_11 (by decide) fl_Mod_7 rfl rfl rfl rfl ?_
  refine sh_mp (fun w Z k => sh_iload_n dc_Mod_latest_14 rfl rfl k) ?_
  refine sh_mzald 1 (l := 6) (k := i) dc_Mod_latest_15 (by decide) rfl (by omega) (by decide) ?_
  refine sh_mp (fun w Z k => sh_if_eq (tgt := 48) dc_Mod_latest_16 (by decide) (fun _ => k) (fun z => absurd c0_16 z)) ?_
  refine sh_mp (fun w Z k => sh_iconst (v := 0) dc_Mod_latest_48 (by decide) k) ?_
  refine sh_mp (fun w Z k => sh_istore_n dc_Mod_latest_49 rfl (by decide) k) ?_
  refine sh_mp (fun w Z k => sh_iload_n dc_Mod_latest_50 rfl rfl k) ?_
  refine sh_mp (fun w Z k => sh_if_eq (tgt := 76) dc_Mod_latest_51 (by decide) (fun _ => k) (fun z => absurd (by decide) z)) ?_
  refine sh_mp (fun w Z k => sh_iinc (v := nI (i + 1)) dc_Mod_latest_76 rfl (sh_nadd rfl (rfl : (1 : Int32) = nI 1)) (by decide) k) ?_
  refine sh_mp (fun w Z k => sh_goto_ (tgt := 4) dc_Mod_latest_79 (by decide) k) ?_
  refine sh_mlv [2, 3, 0] rfl ?_
  exact k9
theorem mb_Mod_latest_b_4_2 {mq : Nat} {A : Nat → Nat} {I I9 : sh_II} {D D9 : sh_DD} {v9 : Option Value} {b : Nat} {i : Nat} (hb : b < 6) (hi : i < 6) (hx : ¬ 6 ≤ (nI i)) (c0_16 : ¬ (I 1 i) = 0) (c1_27 : (Op.cmpValue (FP.dcmp (D 7 i) FP.dconst0) .l) < 0) (k9 : sh_mW mq A md_Mod_latest (4, [(0, .ref mq), (1, .int (nI b)), (2, .int (nI (i + 1)))], []) I D 0 0 v9 I9 D9) : sh_mW mq A md_Mod_latest (4, [(0, .ref mq), (1, .int (nI b)), (2, .int (nI i))], []) I D 0 0 v9 I9 D9 := by
  refine sh_mp (fun w Z k => sh_iload_n dc_Mod_latest_4 rfl rfl k) ?_
  refine sh_mp (fun w Z k => sh_bipush (v := 6) dc_Mod_latest_5 (by decide) k) ?_
  refine sh_mp (fun w Z k => sh_icmp_ge (tgt := 82) dc_Mod_latest_7 (by decide) (fun z => absurd z hx) (fun _ => k)) ?_
  refine sh_mp (fun w Z k => sh_aload_n dc_Mod_latest_10 rfl rfl k) ?_
  refine sh_mget 1 dc_Mod_latest_11 (by decide) fl_Mod_7 rfl rfl rfl rfl ?_
  refine sh_mp (fun w Z k => sh_iload_n dc_Mod_latest_14 rfl rfl k) ?_
  refine sh_mzald 1 (l := 6) (k := i) dc_Mod_latest_15 (by decide) rfl (by omega) (by decide) ?_
  refine sh_mp (fun w Z k => sh_if_eq (tgt := 48) dc_Mod_latest_16 (by decide) (fun z => absurd z c0_16) (fun _ => k)) ?_
  refine sh_mp (fun w Z k => sh_aload_n dc_Mod_latest_19 rfl rfl k) ?_
  refine sh_mget 7 dc_Mod_latest_20 (by decide) fl_Mod_30 rfl rfl rfl rfl ?_
  refine sh_mp (fun w Z k => sh_iload_n dc_Mod_latest_23 rfl rfl k) ?_
  refine sh_mdald 7 (l := 6) (k := i) dc_Mod_latest_24 (by decide) rfl (by omega) (by decide) ?_
  refine sh_mp (fun w Z k => sh_dconst0 dc_Mod_latest_25 k) ?_
  refine sh_mp (fun w Z k => sh_dcmp dc_Mod_latest_26 k) ?_
  refine sh_mp (fun w Z k => sh_if_lt (tgt := 48) dc_Mod_latest_27 (by decide) (fun _ => k) (fun z => absurd c1_27 z)) ?_
  refine sh_mp (fun w Z k => sh_iconst (v := 0) dc_Mod_latest_48 (by decide) k) ?_
  refine sh_mp (fun w Z k => sh_istore_n dc_Mod_latest_49 rfl (by decide) k) ?_
  refine sh_mp (fun w Z k => sh_iload_n dc_Mod_latest_50 rfl rfl k) ?_
  refine sh_mp (fun w Z k => sh_if_eq (tgt := 76) dc_Mod_latest_51 (by decide) (fun _ => k) (fun z => absurd (by decide) z)) ?_
  refine sh_mp (fun w Z k => sh_iinc (v := nI (i + 1)) dc_Mod_latest_76 rfl (sh_nadd rfl (rfl : (1 : Int32) = nI 1)) (by decide) k) ?_
  refine sh_mp (fun w Z k => sh_goto_ (tgt := 4) dc_Mod_latest_79 (by decide) k) ?_
  refine sh_mlv [2, 3, 0] rfl ?_
  exact k9
theorem mb_Mod_latest_b_4_3 {mq : Nat} {A : Nat → Nat} {I I9 : sh_II} {D D9 : sh_DD} {v9 : Option Value} {b : Nat} {i : Nat} (hb : b < 6) (hi : i < 6) (hx : ¬ 6 ≤ (nI i)) (c0_16 : ¬ (I 1 i) = 0) (c1_27 : ¬ (Op.cmpValue (FP.dcmp (D 7 i) FP.dconst0) .l) < 0) (c2_41 : 0 < (Op.cmpValue (FP.dcmp (D 7 i) (D 11 0)) .g)) (k9 : sh_mW mq A md_Mod_latest (4, [(0, .ref mq), (1, .int (nI b)), (2, .int (nI (i + 1)))], []) I D 0 0 v9 I9 D9) : sh_mW mq A md_Mod_latest (4, [(0, .ref mq), (1, .int (nI b)), (2, .int (nI i))], []) I D 0 0 v9 I9 D9 := by
  refine sh_mp (fun w Z k => sh_iload_n dc_Mod_latest_4 rfl rfl k) ?_
  refine sh_mp (fun w Z k => sh_bipush (v := 6) dc_Mod_latest_5 (by decide) k) ?_
  refine sh_mp (fun w Z k => sh_icmp_ge (tgt := 82) dc_Mod_latest_7 (by decide) (fun z => absurd z hx) (fun _ => k)) ?_
  refine sh_mp (fun w Z k => sh_aload_n dc_Mod_latest_10 rfl rfl k) ?_
  refine sh_mget 1 dc_Mod_latest_11 (by decide) fl_Mod_7 rfl rfl rfl rfl ?_
  refine sh_mp (fun w Z k => sh_iload_n dc_Mod_latest_14 rfl rfl k) ?_
  refine sh_mzald 1 (l := 6) (k := i) dc_Mod_latest_15 (by decide) rfl (by omega) (by decide) ?_
  refine sh_mp (fun w Z k => sh_if_eq (tgt := 48) dc_Mod_latest_16 (by decide) (fun z => absurd z c0_16) (fun _ => k)) ?_
  refine sh_mp (fun w Z k => sh_aload_n dc_Mod_latest_19 rfl rfl k) ?_
  refine sh_mget 7 dc_Mod_latest_20 (by decide) fl_Mod_30 rfl rfl rfl rfl ?_
  refine sh_mp (fun w Z k => sh_iload_n dc_Mod_latest_23 rfl rfl k) ?_
  refine sh_mdald 7 (l := 6) (k := i) dc_Mod_latest_24 (by decide) rfl (by omega) (by decide) ?_
  refine sh_mp (fun w Z k => sh_dconst0 dc_Mod_latest_25 k) ?_
  refine sh_mp (fun w Z k => sh_dcmp dc_Mod_latest_26 k) ?_
  refine sh_mp (fun w Z k => sh_if_lt (tgt := 48) dc_Mod_latest_27 (by decide) (fun z => absurd z c1_27) (fun _ => k)) ?_
  refine sh_mp (fun w Z k => sh_aload_n dc_Mod_latest_30 rfl rfl k) ?_
  refine sh_mget 7 dc_Mod_latest_31 (by decide) fl_Mod_30 rfl rfl rfl rfl ?_
  refine sh_mp (fun w Z k => sh_iload_n dc_Mod_latest_34 rfl rfl k) ?_
  refine sh_mdald 7 (l := 6) (k := i) dc_Mod_latest_35 (by decide) rfl (by omega) (by decide) ?_
  refine sh_mp (fun w Z k => sh_aload_n dc_Mod_latest_36 rfl rfl k) ?_
  refine sh_mget 11 dc_Mod_latest_37 (by decide) fl_Mod_94 rfl rfl rfl rfl ?_
  refine sh_mp (fun w Z k => sh_dcmp dc_Mod_latest_40 k) ?_
  refine sh_mp (fun w Z k => sh_if_gt (tgt := 48) dc_Mod_latest_41 (by decide) (fun _ => k) (fun z => absurd c2_41 z)) ?_
  refine sh_mp (fun w Z k => sh_iconst (v := 0) dc_Mod_latest_48 (by decide) k) ?_
  refine sh_mp (fun w Z k => sh_istore_n dc_Mod_latest_49 rfl (by decide) k) ?_
  refine sh_mp (fun w Z k => sh_iload_n dc_Mod_latest_50 rfl rfl k) ?_
  refine sh_mp (fun w Z k => sh_if_eq (tgt := 76) dc_Mod_latest_51 (by decide) (fun _ => k) (fun z => absurd (by decide) z)) ?_
  refine sh_mp (fun w Z k => sh_iinc (v := nI (i + 1)) dc_Mod_latest_76 rfl (sh_nadd rfl (rfl : (1 : Int32) = nI 1)) (by decide) k) ?_
  refine sh_mp (fun w Z k => sh_goto_ (tgt := 4) dc_Mod_latest_79 (by decide) k) ?_
  refine sh_mlv [2, 3, 0] rfl ?_
  exact k9
theorem mb_Mod_latest_b_4_4 {mq : Nat} {A : Nat → Nat} {I I9 : sh_II} {D D9 : sh_DD} {v9 : Option Value} {b : Nat} {i : Nat} (hb : b < 6) (hi : i < 6) (hx : ¬ 6 ≤ (nI i)) (c0_16 : ¬ (I 1 i) = 0) (c1_27 : ¬ (Op.cmpValue (FP.dcmp (D 7 i) FP.dconst0) .l) < 0) (c2_41 : ¬ 0 < (Op.cmpValue (FP.dcmp (D 7 i) (D 11 0)) .g)) (c3_71 : 0 ≤ (Op.cmpValue (FP.dcmp (D 7 i) (D 7 b)) .g)) (k9 : sh_mW mq A md_Mod_latest (4, [(0, .ref mq), (1, .int (nI b)), (2, .int (nI (i + 1)))], []) I D 0 0 v9 I9 D9) : sh_mW mq A md_Mod_latest (4, [(0, .ref mq), (1, .int (nI b)), (2, .int (nI i))], []) I D 0 0 v9 I9 D9 := by
  refine sh_mp (fun w Z k => sh_iload_n dc_Mod_latest_4 rfl rfl k) ?_
  refine sh_mp (fun w Z k => sh_bipush (v := 6) dc_Mod_latest_5 (by decide) k) ?_
  refine sh_mp (fun w Z k => sh_icmp_ge (tgt := 82) dc_Mod_latest_7 (by decide) (fun z => absurd z hx) (fun _ => k)) ?_
  refine sh_mp (fun w Z k => sh_aload_n dc_Mod_latest_10 rfl rfl k) ?_
  refine sh_mget 1 dc_Mod_latest_11 (by decide) fl_Mod_7 rfl rfl rfl rfl ?_
  refine sh_mp (fun w Z k => sh_iload_n dc_Mod_latest_14 rfl rfl k) ?_
  refine sh_mzald 1 (l := 6) (k := i) dc_Mod_latest_15 (by decide) rfl (by omega) (by decide) ?_
  refine sh_mp (fun w Z k => sh_if_eq (tgt := 48) dc_Mod_latest_16 (by decide) (fun z => absurd z c0_16) (fun _ => k)) ?_
  refine sh_mp (fun w Z k => sh_aload_n dc_Mod_latest_19 rfl rfl k) ?_
  refine sh_mget 7 dc_Mod_latest_20 (by decide) fl_Mod_30 rfl rfl rfl rfl ?_
  refine sh_mp (fun w Z k => sh_iload_n dc_Mod_latest_23 rfl rfl k) ?_
  refine sh_mdald 7 (l := 6) (k := i) dc_Mod_latest_24 (by decide) rfl (by omega) (by decide) ?_
  refine sh_mp (fun w Z k => sh_dconst0 dc_Mod_latest_25 k) ?_
  refine sh_mp (fun w Z k => sh_dcmp dc_Mod_latest_26 k) ?_
  refine sh_mp (fun w Z k => sh_if_lt (tgt := 48) dc_Mod_latest_27 (by decide) (fun z => absurd z c1_27) (fun _ => k)) ?_
  refine sh_mp (fun w Z k => sh_aload_n dc_Mod_latest_30 rfl rfl k) ?_
  refine sh_mget 7 dc_Mod_latest_31 (by decide) fl_Mod_30 rfl rfl rfl rfl ?_
  refine sh_mp (fun w Z k => sh_iload_n dc_Mod_latest_34 rfl rfl k) ?_
  refine sh_mdald 7 (l := 6) (k := i) dc_Mod_latest_35 (by decide) rfl (by omega) (by decide) ?_
  refine sh_mp (fun w Z k => sh_aload_n dc_Mod_latest_36 rfl rfl k) ?_
  refine sh_mget 11 dc_Mod_latest_37 (by decide) fl_Mod_94 rfl rfl rfl rfl ?_
  refine sh_mp (fun w Z k => sh_dcmp dc_Mod_latest_40 k) ?_
  refine sh_mp (fun w Z k => sh_if_gt (tgt := 48) dc_Mod_latest_41 (by decide) (fun z => absurd z c2_41) (fun _ => k)) ?_
  refine sh_mp (fun w Z k => sh_iconst (v := 1) dc_Mod_latest_44 (by decide) k) ?_
  refine sh_mp (fun w Z k => sh_goto_ (tgt := 49) dc_Mod_latest_45 (by decide) k) ?_
  refine sh_mp (fun w Z k => sh_istore_n dc_Mod_latest_49 rfl (by decide) k) ?_
  refine sh_mp (fun w Z k => sh_iload_n dc_Mod_latest_50 rfl rfl k) ?_
  refine sh_mp (fun w Z k => sh_if_eq (tgt := 76) dc_Mod_latest_51 (by decide) (fun z => absurd z (by decide)) (fun _ => k)) ?_
  refine sh_mp (fun w Z k => sh_iload_n dc_Mod_latest_54 rfl rfl k) ?_
  refine sh_mp (fun w Z k => sh_if_lt (tgt := 74) dc_Mod_latest_55 (by decide) (fun z => absurd z (nI_pos (by omega))) (fun _ => k)) ?_
  refine sh_mp (fun w Z k => sh_aload_n dc_Mod_latest_58 rfl rfl k) ?_
  refine sh_mget 7 dc_Mod_latest_59 (by decide) fl_Mod_30 rfl rfl rfl rfl ?_
  refine sh_mp (fun w Z k => sh_iload_n dc_Mod_latest_62 rfl rfl k) ?_
  refine sh_mdald 7 (l := 6) (k := i) dc_Mod_latest_63 (by decide) rfl (by omega) (by decide) ?_
  refine sh_mp (fun w Z k => sh_aload_n dc_Mod_latest_64 rfl rfl k) ?_
  refine sh_mget 7 dc_Mod_latest_65 (by decide) fl_Mod_30 rfl rfl rfl rfl ?_
  refine sh_mp (fun w Z k => sh_iload_n dc_Mod_latest_68 rfl rfl k) ?_
  refine sh_mdald 7 (l := 6) (k := b) dc_Mod_latest_69 (by decide) rfl (by omega) (by decide) ?_
  refine sh_mp (fun w Z k => sh_dcmp dc_Mod_latest_70 k) ?_
  refine sh_mp (fun w Z k => sh_if_ge (tgt := 76) dc_Mod_latest_71 (by decide) (fun _ => k) (fun z => absurd c3_71 z)) ?_
  refine sh_mp (fun w Z k => sh_iinc (v := nI (i + 1)) dc_Mod_latest_76 rfl (sh_nadd rfl (rfl : (1 : Int32) = nI 1)) (by decide) k) ?_
  refine sh_mp (fun w Z k => sh_goto_ (tgt := 4) dc_Mod_latest_79 (by decide) k) ?_
  refine sh_mlv [2, 3, 0] rfl ?_
  exact k9
theorem mb_Mod_latest_b_4_5 {mq : Nat} {A : Nat → Nat} {I I9 : sh_II} {D D9 : sh_DD} {v9 : Option Value} {b : Nat} {i : Nat} (hb : b < 6) (hi : i < 6) (hx : ¬ 6 ≤ (nI i)) (c0_16 : ¬ (I 1 i) = 0) (c1_27 : ¬ (Op.cmpValue (FP.dcmp (D 7 i) FP.dconst0) .l) < 0) (c2_41 : ¬ 0 < (Op.cmpValue (FP.dcmp (D 7 i) (D 11 0)) .g)) (c3_71 : ¬ 0 ≤ (Op.cmpValue (FP.dcmp (D 7 i) (D 7 b)) .g)) (k9 : sh_mW mq A md_Mod_latest (4, [(0, .ref mq), (1, .int (nI i)), (2, .int (nI (i + 1)))], []) I D 0 0 v9 I9 D9) : sh_mW mq A md_Mod_latest (4, [(0, .ref mq), (1, .int (nI b)), (2, .int (nI i))], []) I D 0 0 v9 I9 D9 := by
  refine sh_mp (fun w Z k => sh_iload_n dc_Mod_latest_4 rfl rfl k) ?_
  refine sh_mp (fun w Z k => sh_bipush (v := 6) dc_Mod_latest_5 (by decide) k) ?_
  refine sh_mp (fun w Z k => sh_icmp_ge (tgt := 82) dc_Mod_latest_7 (by decide) (fun z => absurd z hx) (fun _ => k)) ?_
  refine sh_mp (fun w Z k => sh_aload_n dc_Mod_latest_10 rfl rfl k) ?_
  refine sh_mget 1 dc_Mod_latest_11 (by decide) fl_Mod_7 rfl rfl rfl rfl ?_
  refine sh_mp (fun w Z k => sh_iload_n dc_Mod_latest_14 rfl rfl k) ?_
  refine sh_mzald 1 (l := 6) (k := i) dc_Mod_latest_15 (by decide) rfl (by omega) (by decide) ?_
  refine sh_mp (fun w Z k => sh_if_eq (tgt := 48) dc_Mod_latest_16 (by decide) (fun z => absurd z c0_16) (fun _ => k)) ?_
  refine sh_mp (fun w Z k => sh_aload_n dc_Mod_latest_19 rfl rfl k) ?_
  refine sh_mget 7 dc_Mod_latest_20 (by decide) fl_Mod_30 rfl rfl rfl rfl ?_
  refine sh_mp (fun w Z k => sh_iload_n dc_Mod_latest_23 rfl rfl k) ?_
  refine sh_mdald 7 (l := 6) (k := i) dc_Mod_latest_24 (by decide) rfl (by omega) (by decide) ?_
  refine sh_mp (fun w Z k => sh_dconst0 dc_Mod_latest_25 k) ?_
  refine sh_mp (fun w Z k => sh_dcmp dc_Mod_latest_26 k) ?_
  refine sh_mp (fun w Z k => sh_if_lt (tgt := 48) dc_Mod_latest_27 (by decide) (fun z => absurd z c1_27) (fun _ => k)) ?_
  refine sh_mp (fun w Z k => sh_aload_n dc_Mod_latest_30 rfl rfl k) ?_
  refine sh_mget 7 dc_Mod_latest_31 (by decide) fl_Mod_30 rfl rfl rfl rfl ?_
  refine sh_mp (fun w Z k => sh_iload_n dc_Mod_latest_34 rfl rfl k) ?_
  refine sh_mdald 7 (l := 6) (k := i) dc_Mod_latest_35 (by decide) rfl (by omega) (by decide) ?_
  refine sh_mp (fun w Z k => sh_aload_n dc_Mod_latest_36 rfl rfl k) ?_
  refine sh_mget 11 dc_Mod_latest_37 (by decide) fl_Mod_94 rfl rfl rfl rfl ?_
  refine sh_mp (fun w Z k => sh_dcmp dc_Mod_latest_40 k) ?_
  refine sh_mp (fun w Z k => sh_if_gt (tgt := 48) dc_Mod_latest_41 (by decide) (fun z => absurd z c2_41) (fun _ => k)) ?_
  refine sh_mp (fun w Z k => sh_iconst (v := 1) dc_Mod_latest_44 (by decide) k) ?_
  refine sh_mp (fun w Z k => sh_goto_ (tgt := 49) dc_Mod_latest_45 (by decide) k) ?_
  refine sh_mp (fun w Z k => sh_istore_n dc_Mod_latest_49 rfl (by decide) k) ?_
  refine sh_mp (fun w Z k => sh_iload_n dc_Mod_latest_50 rfl rfl k) ?_
  refine sh_mp (fun w Z k => sh_if_eq (tgt := 76) dc_Mod_latest_51 (by decide) (fun z => absurd z (by decide)) (fun _ => k)) ?_
  refine sh_mp (fun w Z k => sh_iload_n dc_Mod_latest_54 rfl rfl k) ?_
  refine sh_mp (fun w Z k => sh_if_lt (tgt := 74) dc_Mod_latest_55 (by decide) (fun z => absurd z (nI_pos (by omega))) (fun _ => k)) ?_
  refine sh_mp (fun w Z k => sh_aload_n dc_Mod_latest_58 rfl rfl k) ?_
  refine sh_mget 7 dc_Mod_latest_59 (by decide) fl_Mod_30 rfl rfl rfl rfl ?_
  refine sh_mp (fun w Z k => sh_iload_n dc_Mod_latest_62 rfl rfl k) ?_
  refine sh_mdald 7 (l := 6) (k := i) dc_Mod_latest_63 (by decide) rfl (by omega) (by decide) ?_
  refine sh_mp (fun w Z k => sh_aload_n dc_Mod_latest_64 rfl rfl k) ?_
  refine sh_mget 7 dc_Mod_latest_65 (by decide) fl_Mod_30 rfl rfl rfl rfl ?_
  refine sh_mp (fun w Z k => sh_iload_n dc_Mod_latest_68 rfl rfl k) ?_
  refine sh_mdald 7 (l := 6) (k := b) dc_Mod_latest_69 (by decide) rfl (by omega) (by decide) ?_
  refine sh_mp (fun w Z k => sh_dcmp dc_Mod_latest_70 k) ?_
  refine sh_mp (fun w Z k => sh_if_ge (tgt := 76) dc_Mod_latest_71 (by decide) (fun z => absurd z c3_71) (fun _ => k)) ?_
  refine sh_mp (fun w Z k => sh_iload_n dc_Mod_latest_74 rfl rfl k) ?_
  refine sh_mp (fun w Z k => sh_istore_n dc_Mod_latest_75 rfl (by decide) k) ?_
  refine sh_mp (fun w Z k => sh_iinc (v := nI (i + 1)) dc_Mod_latest_76 rfl (sh_nadd rfl (rfl : (1 : Int32) = nI 1)) (by decide) k) ?_
  refine sh_mp (fun w Z k => sh_goto_ (tgt := 4) dc_Mod_latest_79 (by decide) k) ?_
  refine sh_mlv [3, 1, 0] rfl ?_
  exact k9
theorem mb_Mod_leads_p_0_1 {mq : Nat} {A : Nat → Nat} {I I9 : sh_II} {D D9 : sh_DD} {v9 : Option Value} {a : Nat} {b : Nat} (ha : a < 8) (hb : b < 8) (k9 : sh_mW mq A md_Mod_leads (2, [(0, .ref mq), (1, .int (nI a)), (2, .int (nI b)), (3, .int 0)], []) I D 0 0 v9 I9 D9) : sh_mW mq A md_Mod_leads (0, [(0, .ref mq), (1, .int (nI a)), (2, .int (nI b))], []) I D 0 0 v9 I9 D9 := by
  refine sh_mp (fun w Z k => sh_iconst (v := 0) dc_Mod_leads_0 (by decide) k) ?_
  refine sh_mp (fun w Z k => sh_istore_n dc_Mod_leads_1 rfl (by decide) k) ?_
  refine sh_mlv [1, 2, 3, 0] rfl ?_
  exact k9
theorem mb_Mod_leads_e_2_1 {mq : Nat} {A : Nat → Nat} {I I9 : sh_II} {D D9 : sh_DD} {v9 : Option Value} {a : Nat} {b : Nat} {i : Nat} (ha : a < 8) (hb : b < 8) (hx : 8 ≤ (nI i)) (k9 : sh_mW mq A md_Mod_leads (33, [(0, .ref mq), (1, .int (nI a)), (2, .int (nI b)), (3, .int 0)], []) I D 0 0 v9 I9 D9) : sh_mW mq A md_Mod_leads (2, [(0, .ref mq), (1, .int (nI a)), (2, .int (nI b)), (3, .int (nI i))], []) I D 0 0 v9 I9 D9 := by
  refine sh_mp (fun w Z k => sh_iload_n dc_Mod_leads_2 rfl rfl k) ?_
  refine sh_mp (fun w Z k => sh_bipush (v := 8) dc_Mod_leads_3 (by decide) k) ?_
  refine sh_mp (fun w Z k => sh_icmp_ge (tgt := 31) dc_Mod_leads_5 (by decide) (fun _ => k) (fun z => absurd hx z)) ?_
  refine sh_mp (fun w Z k => sh_iconst (v := 0) dc_Mod_leads_31 (by decide) k) ?_
  refine sh_mp (fun w Z k => sh_istore_n dc_Mod_leads_32 rfl (by decide) k) ?_
  refine sh_mlv [1, 2, 3, 0] rfl ?_
  exact k9
theorem mb_Mod_leads_2_1 {mq : Nat} {A : Nat → Nat} {I I9 : sh_II} {D D9 : sh_DD} {v9 : Option Value} {a : Nat} {b : Nat} {i : Nat} (ha : a < 8) (hb : b < 8) (hi : i < 8) (hx : ¬ 8 ≤ (nI i)) (v0_24 : (I 22 ((8 * a) + i)) = 0 ∨ (I 22 ((8 * a) + i)) = 1) (k9 : sh_mW mq A md_Mod_leads (2, [(0, .ref mq), (1, .int (nI a)), (2, .int (nI b)), (3, .int (nI (i + 1)))], []) (sh_u2 I 23 i (I 22 ((8 * a) + i))) D 0 0 v9 I9 D9) : sh_mW mq A md_Mod_leads (2, [(0, .ref mq), (1, .int (nI a)), (2, .int (nI b)), (3, .int (nI i))], []) I D 0 0 v9 I9 D9 := by
  refine sh_mp (fun w Z k => sh_iload_n dc_Mod_leads_2 rfl rfl k) ?_
  refine sh_mp (fun w Z k => sh_bipush (v := 8) dc_Mod_leads_3 (by decide) k) ?_
  refine sh_mp (fun w Z k => sh_icmp_ge (tgt := 31) dc_Mod_leads_5 (by decide) (fun z => absurd z hx) (fun _ => k)) ?_
  refine sh_mp (fun w Z k => sh_aload_n dc_Mod_leads_8 rfl rfl k) ?_
  refine sh_mget 23 dc_Mod_leads_9 (by decide) fl_Mod_75 rfl rfl rfl rfl ?_
  refine sh_mp (fun w Z k => sh_iload_n dc_Mod_leads_12 rfl rfl k) ?_
  refine sh_mp (fun w Z k => sh_aload_n dc_Mod_leads_13 rfl rfl k) ?_
  refine sh_mget 22 dc_Mod_leads_14 (by decide) fl_Mod_72 rfl rfl rfl rfl ?_
  refine sh_mp (fun w Z k => sh_bipush (v := 8) dc_Mod_leads_17 (by decide) k) ?_
  refine sh_mp (fun w Z k => sh_iload_n dc_Mod_leads_19 rfl rfl k) ?_
  refine sh_mp (fun w Z k => sh_imul dc_Mod_leads_20 k) ?_
  refine sh_mp (fun w Z k => sh_iload_n dc_Mod_leads_21 rfl rfl k) ?_
  refine sh_mp (fun w Z k => sh_iadd dc_Mod_leads_22 k) ?_
  refine sh_mzald 22 (l := 64) (k := (8 * a) + i) dc_Mod_leads_23 (by decide) (sh_nadd (sh_nmul rfl rfl) rfl) (by omega) (by decide) ?_
  refine sh_mzast 23 (l := 8) (k := i) dc_Mod_leads_24 (by decide) rfl (by omega) (by decide) v0_24 ?_
  refine sh_mp (fun w Z k => sh_iinc (v := nI (i + 1)) dc_Mod_leads_25 rfl (sh_nadd rfl (rfl : (1 : Int32) = nI 1)) (by decide) k) ?_
  refine sh_mp (fun w Z k => sh_goto_ (tgt := 2) dc_Mod_leads_28 (by decide) k) ?_
  refine sh_mlv [1, 2, 3, 0] rfl ?_
  exact k9
theorem mb_Mod_leads_e_33_1 {mq : Nat} {A : Nat → Nat} {I : sh_II} {D : sh_DD} {a : Nat} {b : Nat} {i : Nat} (ha : a < 8) (hb : b < 8) (hx : 8 ≤ (nI i)) (v0_117 : narrow .boolean (.int (I 23 b)) = .int (I 23 b)) : sh_mW mq A md_Mod_leads (33, [(0, .ref mq), (1, .int (nI a)), (2, .int (nI b)), (3, .int (nI i))], []) I D 0 0 (some (.int (I 23 b))) I D := by
  refine sh_mp (fun w Z k => sh_iload_n dc_Mod_leads_33 rfl rfl k) ?_
  refine sh_mp (fun w Z k => sh_bipush (v := 8) dc_Mod_leads_34 (by decide) k) ?_
  refine sh_mp (fun w Z k => sh_icmp_ge (tgt := 111) dc_Mod_leads_36 (by decide) (fun _ => k) (fun z => absurd hx z)) ?_
  refine sh_mp (fun w Z k => sh_aload_n dc_Mod_leads_111 rfl rfl k) ?_
  refine sh_mget 23 dc_Mod_leads_112 (by decide) fl_Mod_75 rfl rfl rfl rfl ?_
  refine sh_mp (fun w Z k => sh_iload_n dc_Mod_leads_115 rfl rfl k) ?_
  refine sh_mzald 23 (l := 8) (k := b) dc_Mod_leads_116 (by decide) rfl (by omega) (by decide) ?_
  exact sh_me (fun w => sh_ireturn dc_Mod_leads_117 rfl v0_117 (by decide) (by decide))
theorem mb_Mod_leads_33_1 {mq : Nat} {A : Nat → Nat} {I I9 : sh_II} {D D9 : sh_DD} {v9 : Option Value} {a : Nat} {b : Nat} {i : Nat} (ha : a < 8) (hb : b < 8) (hi : i < 8) (hx : ¬ 8 ≤ (nI i)) (k9 : sh_mW mq A md_Mod_leads (42, [(0, .ref mq), (1, .int (nI a)), (2, .int (nI b)), (3, .int (nI i)), (4, .int 0)], []) I D 0 0 v9 I9 D9) : sh_mW mq A md_Mod_leads (33, [(0, .ref mq), (1, .int (nI a)), (2, .int (nI b)), (3, .int (nI i))], []) I D 0 0 v9 I9 D9 := by
  refine sh_mp (fun w Z k => sh_iload_n dc_Mod_leads_33 rfl rfl k) ?_
  refine sh_mp (fun w Z k => sh_bipush (v := 8) dc_Mod_leads_34 (by decide) k) ?_
  refine sh_mp (fun w Z k => sh_icmp_ge (tgt := 111) dc_Mod_leads_36 (by decide) (fun z => absurd z hx) (fun _ => k)) ?_
  refine sh_mp (fun w Z k => sh_iconst (v := 0) dc_Mod_leads_39 (by decide) k) ?_
  refine sh_mp (fun w Z k => sh_istore dc_Mod_leads_40 (by decide) k) ?_
  refine sh_mlv [1, 2, 3, 4, 0] rfl ?_
  exact k9
theorem mb_Mod_leads_e_42_1 {mq : Nat} {A : Nat → Nat} {I I9 : sh_II} {D D9 : sh_DD} {v9 : Option Value} {a : Nat} {b : Nat} {i : Nat} {j : Nat} (ha : a < 8) (hb : b < 8) (hy : 8 ≤ (nI j)) (k9 : sh_mW mq A md_Mod_leads (33, [(0, .ref mq), (1, .int (nI a)), (2, .int (nI b)), (3, .int (nI (i + 1)))], []) I D 0 0 v9 I9 D9) : sh_mW mq A md_Mod_leads (42, [(0, .ref mq), (1, .int (nI a)), (2, .int (nI b)), (3, .int (nI i)), (4, .int (nI j))], []) I D 0 0 v9 I9 D9 := by
  refine sh_mp (fun w Z k => sh_iload dc_Mod_leads_42 rfl k) ?_
  refine sh_mp (fun w Z k => sh_bipush (v := 8) dc_Mod_leads_44 (by decide) k) ?_
  refine sh_mp (fun w Z k => sh_icmp_ge (tgt := 105) dc_Mod_leads_46 (by decide) (fun _ => k) (fun z => absurd hy z)) ?_
  refine sh_mp (fun w Z k => sh_iinc (v := nI (i + 1)) dc_Mod_leads_105 rfl (sh_nadd rfl (rfl : (1 : Int32) = nI 1)) (by decide) k) ?_
  refine sh_mp (fun w Z k => sh_goto_ (tgt := 33) dc_Mod_leads_108 (by decide) k) ?_
  refine sh_mlv [1, 2, 3, 0] rfl ?_
  exact k9
theorem mb_Mod_leads_42_1 {mq : Nat} {A : Nat → Nat} {I I9 : sh_II} {D D9 : sh_DD} {v9 : Option Value} {a : Nat} {b : Nat} {i : Nat} {j : Nat} (ha : a < 8) (hb : b < 8) (hj : j < 8) (hy : ¬ 8 ≤ (nI j)) (k9 : sh_mW mq A md_Mod_leads (52, [(0, .ref mq), (1, .int (nI a)), (2, .int (nI b)), (3, .int (nI i)), (4, .int (nI j)), (5, .int 0)], []) I D 0 0 v9 I9 D9) : sh_mW mq A md_Mod_leads (42, [(0, .ref mq), (1, .int (nI a)), (2, .int (nI b)), (3, .int (nI i)), (4, .int (nI j))], []) I D 0 0 v9 I9 D9 := by
  refine sh_mp (fun w Z k => sh_iload dc_Mod_leads_42 rfl k) ?_
  refine sh_mp (fun w Z k => sh_bipush (v := 8) dc_Mod_leads_44 (by decide) k) ?_
  refine sh_mp (fun w Z k => sh_icmp_ge (tgt := 105) dc_Mod_leads_46 (by decide) (fun z => absurd z hy) (fun _ => k)) ?_
  refine sh_mp (fun w Z k => sh_iconst (v := 0) dc_Mod_leads_49 (by decide) k) ?_
  refine sh_mp (fun w Z k => sh_istore dc_Mod_leads_50 (by decide) k) ?_
  refine sh_mlv [1, 2, 3, 4, 5, 0] rfl ?_
  exact k9
theorem mb_Mod_leads_e_52_1 {mq : Nat} {A : Nat → Nat} {I I9 : sh_II} {D D9 : sh_DD} {v9 : Option Value} {a : Nat} {b : Nat} {i : Nat} {j : Nat} {r : Nat} (ha : a < 8) (hb : b < 8) (hj : j < 8) (hy : 8 ≤ (nI r)) (k9 : sh_mW mq A md_Mod_leads (42, [(0, .ref mq), (1, .int (nI a)), (2, .int (nI b)), (3, .int (nI i)), (4, .int (nI (j + 1)))], []) I D 0 0 v9 I9 D9) : sh_mW mq A md_Mod_leads (52, [(0, .ref mq), (1, .int (nI a)), (2, .int (nI b)), (3, .int (nI i)), (4, .int (nI j)), (5, .int (nI r))], []) I D 0 0 v9 I9 D9 := by
  refine sh_mp (fun w Z k => sh_iload dc_Mod_leads_52 rfl k) ?_
  refine sh_mp (fun w Z k => sh_bipush (v := 8) dc_Mod_leads_54 (by decide) k) ?_
  refine sh_mp (fun w Z k => sh_icmp_ge (tgt := 99) dc_Mod_leads_56 (by decide) (fun _ => k) (fun z => absurd hy z)) ?_
  refine sh_mp (fun w Z k => sh_iinc (v := nI (j + 1)) dc_Mod_leads_99 rfl (sh_nadd rfl (rfl : (1 : Int32) = nI 1)) (by decide) k) ?_
  refine sh_mp (fun w Z k => sh_goto_ (tgt := 42) dc_Mod_leads_102 (by decide) k) ?_
  refine sh_mlv [1, 2, 3, 4, 0] rfl ?_
  exact k9
theorem mb_Mod_leads_52_1 {mq : Nat} {A : Nat → Nat} {I I9 : sh_II} {D D9 : sh_DD} {v9 : Option Value} {a : Nat} {b : Nat} {i : Nat} {j : Nat} {r : Nat} (ha : a < 8) (hb : b < 8) (hj : j < 8) (hr : r < 8) (hy : ¬ 8 ≤ (nI r)) (c0_66 : (I 23 j) = 0) (k9 : sh_mW mq A md_Mod_leads (42, [(0, .ref mq), (1, .int (nI a)), (2, .int (nI b)), (3, .int (nI i)), (4, .int (nI (j + 1)))], []) I D 0 0 v9 I9 D9) : sh_mW mq A md_Mod_leads (52, [(0, .ref mq), (1, .int (nI a)), (2, .int (nI b)), (3, .int (nI i)), (4, .int (nI j)), (5, .int (nI r))], []) I D 0 0 v9 I9 D9 := by
  refine sh_mp (fun w Z k => sh_iload dc_Mod_leads_52 rfl k) ?_
  refine sh_mp (fun w Z k => sh_bipush (v := 8) dc_Mod_leads_54 (by decide) k) ?_
  refine sh_mp (fun w Z k => sh_icmp_ge (tgt := 99) dc_Mod_leads_56 (by decide) (fun z => absurd z hy) (fun _ => k)) ?_
  refine sh_mp (fun w Z k => sh_aload_n dc_Mod_leads_59 rfl rfl k) ?_
  refine sh_mget 23 dc_Mod_leads_60 (by decide) fl_Mod_75 rfl rfl rfl rfl ?_
  refine sh_mp (fun w Z k => sh_iload dc_Mod_leads_63 rfl k) ?_
  refine sh_mzald 23 (l := 8) (k := j) dc_Mod_leads_65 (by decide) rfl (by omega) (by decide) ?_
  refine sh_mp (fun w Z k => sh_if_eq (tgt := 99) dc_Mod_leads_66 (by decide) (fun _ => k) (fun z => absurd c0_66 z)) ?_
  refine sh_mp (fun w Z k => sh_iinc (v := nI (j + 1)) dc_Mod_leads_99 rfl (sh_nadd rfl (rfl : (1 : Int32) = nI 1)) (by decide) k) ?_
  refine sh_mp (fun w Z k => sh_goto_ (tgt := 42) dc_Mod_leads_102 (by decide) k) ?_
  refine sh_mlv [1, 2, 3, 4, 0] rfl ?_
  exact k9
theorem mb_Mod_leads_52_2 {mq : Nat} {A : Nat → Nat} {I I9 : sh_II} {D D9 : sh_DD} {v9 : Option Value} {a : Nat} {b : Nat} {i : Nat} {j : Nat} {r : Nat} (ha : a < 8) (hb : b < 8) (hj : j < 8) (hr : r < 8) (hy : ¬ 8 ≤ (nI r)) (c0_66 : ¬ (I 23 j) = 0) (c1_82 : (I 22 ((8 * j) + r)) = 0) (k9 : sh_mW mq A md_Mod_leads (52, [(0, .ref mq), (1, .int (nI a)), (2, .int (nI b)), (3, .int (nI i)), (4, .int (nI j)), (5, .int (nI (r + 1)))], []) I D 0 0 v9 I9 D9) : sh_mW mq A md_Mod_leads (52, [(0, .ref mq), (1, .int (nI a)), (2, .int (nI b)), (3, .int (nI i)), (4, .int (nI j)), (5, .int (nI r))], []) I D 0 0 v9 I9 D9 := by
  refine sh_mp (fun w Z k => sh_iload dc_Mod_leads_52 rfl k) ?_
  refine sh_mp (fun w Z k => sh_bipush (v := 8) dc_Mod_leads_54 (by decide) k) ?_
  refine sh_mp (fun w Z k => sh_icmp_ge (tgt := 99) dc_Mod_leads_56 (by decide) (fun z => absurd z hy) (fun _ => k)) ?_
  refine sh_mp (fun w Z k => sh_aload_n dc_Mod_leads_59 rfl rfl k) ?_
  refine sh_mget 23 dc_Mod_leads_60 (by decide) fl_Mod_75 rfl rfl rfl rfl ?_
  refine sh_mp (fun w Z k => sh_iload dc_Mod_leads_63 rfl k) ?_
  refine sh_mzald 23 (l := 8) (k := j) dc_Mod_leads_65 (by decide) rfl (by omega) (by decide) ?_
  refine sh_mp (fun w Z k => sh_if_eq (tgt := 99) dc_Mod_leads_66 (by decide) (fun z => absurd z c0_66) (fun _ => k)) ?_
  refine sh_mp (fun w Z k => sh_aload_n dc_Mod_leads_69 rfl rfl k) ?_
  refine sh_mget 22 dc_Mod_leads_70 (by decide) fl_Mod_72 rfl rfl rfl rfl ?_
  refine sh_mp (fun w Z k => sh_bipush (v := 8) dc_Mod_leads_73 (by decide) k) ?_
  refine sh_mp (fun w Z k => sh_iload dc_Mod_leads_75 rfl k) ?_
  refine sh_mp (fun w Z k => sh_imul dc_Mod_leads_77 k) ?_
  refine sh_mp (fun w Z k => sh_iload dc_Mod_leads_78 rfl k) ?_
  refine sh_mp (fun w Z k => sh_iadd dc_Mod_leads_80 k) ?_
  refine sh_mzald 22 (l := 64) (k := (8 * j) + r) dc_Mod_leads_81 (by decide) (sh_nadd (sh_nmul rfl rfl) rfl) (by omega) (by decide) ?_
  refine sh_mp (fun w Z k => sh_if_eq (tgt := 93) dc_Mod_leads_82 (by decide) (fun _ => k) (fun z => absurd c1_82 z)) ?_
  refine sh_mp (fun w Z k => sh_iinc (v := nI (r + 1)) dc_Mod_leads_93 rfl (sh_nadd rfl (rfl : (1 : Int32) = nI 1)) (by decide) k) ?_
  refine sh_mp (fun w Z k => sh_goto_ (tgt := 52) dc_Mod_leads_96 (by decide) k) ?_
  refine sh_mlv [1, 2, 3, 4, 5, 0] rfl ?_
  exact k9
theorem mb_Mod_leads_52_3 {mq : Nat} {A : Nat → Nat} {I I9 : sh_II} {D D9 : sh_DD} {v9 : Option Value} {a : Nat} {b : Nat} {i : Nat} {j : Nat} {r : Nat} (ha : a < 8) (hb : b < 8) (hj : j < 8) (hr : r < 8) (hy : ¬ 8 ≤ (nI r)) (c0_66 : ¬ (I 23 j) = 0) (c1_82 : ¬ (I 22 ((8 * j) + r)) = 0) (k9 : sh_mW mq A md_Mod_leads (52, [(0, .ref mq), (1, .int (nI a)), (2, .int (nI b)), (3, .int (nI i)), (4, .int (nI j)), (5, .int (nI (r + 1)))], []) (sh_u2 I 23 r 1) D 0 0 v9 I9 D9) : sh_mW mq A md_Mod_leads (52, [(0, .ref mq), (1, .int (nI a)), (2, .int (nI b)), (3, .int (nI i)), (4, .int (nI j)), (5, .int (nI r))], []) I D 0 0 v9 I9 D9 := by
  refine sh_mp (fun w Z k => sh_iload dc_Mod_leads_52 rfl k) ?_
  refine sh_mp (fun w Z k => sh_bipush (v := 8) dc_Mod_leads_54 (by decide) k) ?_
  refine sh_mp (fun w Z k => sh_icmp_ge (tgt := 99) dc_Mod_leads_56 (by decide) (fun z => absurd z hy) (fun _ => k)) ?_
  refine sh_mp (fun w Z k => sh_aload_n dc_Mod_leads_59 rfl rfl k) ?_
  refine sh_mget 23 dc_Mod_leads_60 (by decide) fl_Mod_75 rfl rfl rfl rfl ?_
  refine sh_mp (fun w Z k => sh_iload dc_Mod_leads_63 rfl k) ?_
  refine sh_mzald 23 (l := 8) (k := j) dc_Mod_leads_65 (by decide) rfl (by omega) (by decide) ?_
  refine sh_mp (fun w Z k => sh_if_eq (tgt := 99) dc_Mod_leads_66 (by decide) (fun z => absurd z c0_66) (fun _ => k)) ?_
  refine sh_mp (fun w Z k => sh_aload_n dc_Mod_leads_69 rfl rfl k) ?_
  refine sh_mget 22 dc_Mod_leads_70 (by decide) fl_Mod_72 rfl rfl rfl rfl ?_
  refine sh_mp (fun w Z k => sh_bipush (v := 8) dc_Mod_leads_73 (by decide) k) ?_
  refine sh_mp (fun w Z k => sh_iload dc_Mod_leads_75 rfl k) ?_
  refine sh_mp (fun w Z k => sh_imul dc_Mod_leads_77 k) ?_
  refine sh_mp (fun w Z k => sh_iload dc_Mod_leads_78 rfl k) ?_
  refine sh_mp (fun w Z k => sh_iadd dc_Mod_leads_80 k) ?_
  refine sh_mzald 22 (l := 64) (k := (8 * j) + r) dc_Mod_leads_81 (by decide) (sh_nadd (sh_nmul rfl rfl) rfl) (by omega) (by decide) ?_
  refine sh_mp (fun w Z k => sh_if_eq (tgt := 93) dc_Mod_leads_82 (by decide) (fun z => absurd z c1_82) (fun _ => k)) ?_
  refine sh_mp (fun w Z k => sh_aload_n dc_Mod_leads_85 rfl rfl k) ?_
  refine sh_mget 23 dc_Mod_leads_86 (by decide) fl_Mod_75 rfl rfl rfl rfl ?_
  refine sh_mp (fun w Z k => sh_iload dc_Mod_leads_89 rfl k) ?_
  refine sh_mp (fun w Z k => sh_iconst (v := 1) dc_Mod_leads_91 (by decide) k) ?_
  refine sh_mzast 23 (l := 8) (k := r) dc_Mod_leads_92 (by decide) rfl (by omega) (by decide) (by decide) ?_
  refine sh_mp (fun w Z k => sh_iinc (v := nI (r + 1)) dc_Mod_leads_93 rfl (sh_nadd rfl (rfl : (1 : Int32) = nI 1)) (by decide) k) ?_
  refine sh_mp (fun w Z k => sh_goto_ (tgt := 52) dc_Mod_leads_96 (by decide) k) ?_
  refine sh_mlv [1, 2, 3, 4, 5, 0] rfl ?_
  exact k9
